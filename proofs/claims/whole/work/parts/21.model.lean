abbrev rm_Mo_pack : Room := { frames := 5, cells := 0, slots := 0, locals := 120 }
abbrev ws_Mo_pack : List Cond := .code y_Mo_pack c_Mo_pack 2 (some .int) :: tpG
noncomputable def m_Mo_pack (N : Nat) (x1 : Int32) (j_in : Int32) (j_out : Int32) (j_made : Int32) (j_known : Int32) (j_fat : Int32) (j_flong : Int32) (ji_f : Nat → Int32) (jo_f : Nat → Int32) (jm_f : Nat → Int32) (jn_f : Nat → Int32) (jf_f : Nat → Int32) : Option (Int32 × Int32 × Int32 × Int32 × Int32 × Int32 × (Nat → Int32) × (Nat → Int32) × (Nat → Int32) × (Nat → Int32)) :=
  if x1 < 0 then
    some ((-1 : Int32), j_out, j_made, j_known, j_fat, j_flong, jo_f, jm_f, jn_f, jf_f)
  else
    if x1 ≤ (3 : Int32) then
      tp_b7 (m_Mo_putBlock N (0 : Int32) j_in x1 (0 : Int32) j_known j_fat j_flong ji_f jm_f jn_f jf_f) fun j_made_3 j_known_4 j_fat_5 j_flong_6 jm_f_7 jn_f_8 jf_f_9 =>
      if j_made_3 ≤ (10000 : Int32) then
        tp_b3 (m_Mo_settle N j_out j_made_3 jo_f jm_f_7) fun r12 j_out_13 jo_f_14 =>
        some (r12, j_out_13, j_made_3, j_known_4, j_fat_5, j_flong_6, jo_f_14, jm_f_7, jn_f_8, jf_f_9)
      else
        some ((-1 : Int32), j_out, j_made_3, j_known_4, j_fat_5, j_flong_6, jo_f, jm_f_7, jn_f_8, jf_f_9)
    else
      some ((-1 : Int32), j_out, j_made, j_known, j_fat, j_flong, jo_f, jm_f, jn_f, jf_f)
section
variable {p : Program} {l : Launch} {e : Env} {s : State} {m : MethodId} {args : Array Value} {below : List Frame} {meth : Method} {c : Code} {A : Nat → Prop} {D : va_G} {cB cI : ClassId} {tM : Nat}
set_option maxHeartbeats 4000000 in
set_option maxRecDepth 100000 in
theorem ct_Mo_pack {q_j q_ji q_jo q_jm q_jn q_jf : Nat} {j_in : Int32} {j_out : Int32} {j_made : Int32} {j_known : Int32} {j_fat : Int32} {j_flong : Int32} {j_told : Int32} {j_at : Int32} {j_end : Int32} {j_fault : Int32} {j_fp : Int32} {ji_f : Nat → Int32} {jo_f : Nat → Int32} {jm_f : Nat → Int32} {jn_f : Nat → Int32} {jf_f : Nat → Int32} {N : Nat} {x1 : Int32} {r : Int32} {j_out' : Int32} {j_made' : Int32} {j_known' : Int32} {j_fat' : Int32} {j_flong' : Int32} {jo_f' : Nat → Int32} {jm_f' : Nat → Int32} {jn_f' : Nat → Int32} {jf_f' : Nat → Int32} (hm : m_Mo_pack N x1 j_in j_out j_made j_known j_fat j_flong ji_f jo_f jm_f jn_f jf_f = some (r, j_out', j_made', j_known', j_fat', j_flong', jo_f', jm_f', jn_f', jf_f')) (sz : Nat) : tp_Ci l y_Mo_pack ws_Mo_pack rm_Mo_pack D (tp_ty cB cI) tM [.ref q_j, .int x1] [(q_j, .inr (7, [.ref q_ji, .int j_in, .ref q_jo, .int j_out, .ref q_jm, .int j_made, .ref q_jn, .ref q_jf, .int j_known, .int j_fat, .int j_flong, .int j_told, .int j_at, .int j_end, .int j_fault, .int j_fp])), (q_ji, .inl (cB, 10000, .inl ji_f)), (q_jo, .inl (cB, 10000, .inl jo_f)), (q_jm, .inl (cB, 20000, .inl jm_f)), (q_jn, .inl (cI, 10001, .inl jn_f)), (q_jf, .inl (cI, 10001, .inl jf_f))] sz r [(q_j, .inr (7, [.ref q_ji, .int j_in, .ref q_jo, .int j_out', .ref q_jm, .int j_made', .ref q_jn, .ref q_jf, .int j_known', .int j_fat', .int j_flong', .int j_told, .int j_at, .int j_end, .int j_fault, .int j_fp])), (q_ji, .inl (cB, 10000, .inl ji_f)), (q_jo, .inl (cB, 10000, .inl jo_f')), (q_jm, .inl (cB, 20000, .inl jm_f')), (q_jn, .inl (cI, 10001, .inl jn_f')), (q_jf, .inl (cI, 10001, .inl jf_f'))] := by
  refine Met.ofW (cc := c_Mo_pack) (maxL := 2) (ret := (some .int)) (by decide) rfl ?_
  intro p e s m args below meth c s₁ B hml hv
  obtain ⟨rfl, hv⟩ := hv
  have hw := tp_entry hv
  generalize va_A [(q_j, .inr (7, [.ref q_ji, .int j_in, .ref q_jo, .int j_out, .ref q_jm, .int j_made, .ref q_jn, .ref q_jf, .int j_known, .int j_fat, .int j_flong, .int j_told, .int j_at, .int j_end, .int j_fault, .int j_fp])), (q_ji, .inl (cB, 10000, .inl ji_f)), (q_jo, .inl (cB, 10000, .inl jo_f)), (q_jm, .inl (cB, 20000, .inl jm_f)), (q_jn, .inl (cI, 10001, .inl jn_f)), (q_jf, .inl (cI, 10001, .inl jf_f))] sz = A at hw ⊢
  have hx := B.exec
  have hb := B.bytes
  have hr := B.returns
  have hts0 := atoms_spec (ws := ws_Mo_pack) B.pre
  have hts := fun w h => hts0 w (List.mem_cons_of_mem _ h)
  have hown : s.vm.findClass R_Mo = some m.cls := findClass_of_methodNamed B.named
  have hlocks := B.notSynchronized
  have hF : CallFix p m c c_Mo_pack 2 s _ tpG R_Mo := ⟨hx, hb, hml, hown, hts⟩
  have hF2 : tp_F p m c c_Mo_pack 2 s _ tpG R_Mo meth (some .int) := ⟨hF, hr, hlocks⟩
  have hl := lv_entry ([.ref q_j, .int x1]) (n := 2) (Nat.le_of_ble_eq_true rfl)
  rw [lg_entry_eq]
  generalize (lg_sl ([.ref q_j, .int x1]) ++ List.replicate (2 - (lg_sl ([.ref q_j, .int x1])).length) Slot.unset).toArray = ls at hl ⊢
  replace hl : lv_has ls 2 [(0, .ref q_j), (1, .int x1)] := hl
  unfold m_Mo_pack at hm
  refine lv_iload_n hx hb d_Mo_pack_0 rfl (lv_at hl 1 rfl) ?_
  refine lv_if_lt (tgt := 9) hx hb d_Mo_pack_1 (by decide +kernel) (fun hc1 => ?_) (fun hc1 => ?_)
  · replace hm := tp_it hc1 hm
    refine lv_iconst (v := (-1 : Int32)) hx hb d_Mo_pack_9 (by decide +kernel) ?_
    obtain ⟨rfl, rfl, rfl, rfl, rfl, rfl, rfl, rfl, rfl, rfl⟩ := tp_inj10 hm
    exact tp_iret hx hb hr hlocks hw d_Mo_pack_10
  · replace hm := tp_if hc1 hm
    refine lv_iload_n hx hb d_Mo_pack_4 rfl (lv_at hl 1 rfl) ?_
    refine lv_iconst (v := (3 : Int32)) hx hb d_Mo_pack_5 (by decide +kernel) ?_
    refine lv_icmp_le (tgt := 11) hx hb d_Mo_pack_6 (by decide +kernel) (fun hc2 => ?_) (fun hc2 => ?_)
    · replace hm := tp_it hc2 hm
      refine lv_aload_n hx hb d_Mo_pack_11 rfl (lv_at hl 0 rfl) ?_
      refine lv_iconst (v := (0 : Int32)) hx hb d_Mo_pack_12 (by decide +kernel) ?_
      refine tp_put (v := .int (0 : Int32)) (C := R_Mo) (T := T_Mo) (WS' := [(q_j, .inr (7, [.ref q_ji, .int j_in, .ref q_jo, .int j_out, .ref q_jm, .int (0 : Int32), .ref q_jn, .ref q_jf, .int j_known, .int j_fat, .int j_flong, .int j_told, .int j_at, .int j_end, .int j_fault, .int j_fp])), (q_ji, .inl (cB, 10000, .inl ji_f)), (q_jo, .inl (cB, 10000, .inl jo_f)), (q_jm, .inl (cB, 20000, .inl jm_f)), (q_jn, .inl (cI, 10001, .inl jn_f)), (q_jf, .inl (cI, 10001, .inl jf_f))]) hx hb hts fw_Mo ty_Mo ty_Mo_ok nm_Mo hown hw 0 rfl rfl 5 (by decide +kernel) (hts _ wd_337) rfl rfl rfl (Nat.le_of_ble_eq_true rfl) rfl d_Mo_pack_13 (fun H locs hw => ?_)
      refine lv_aload_n hx hb d_Mo_pack_16 rfl (lv_at hl 0 rfl) ?_
      refine lv_iconst (v := (0 : Int32)) hx hb d_Mo_pack_17 (by decide +kernel) ?_
      refine lv_aload_n hx hb d_Mo_pack_18 rfl (lv_at hl 0 rfl) ?_
      refine tp_get (v := .int j_in) (C := R_Mo) (T := T_Mo) hx hb hts fw_Mo hown hw 0 rfl rfl 1 (by decide +kernel) (hts _ wd_332) rfl d_Mo_pack_19 ?_
      refine lv_iload_n hx hb d_Mo_pack_22 rfl (lv_at hl 1 rfl) ?_
      obtain ⟨j_made_3, j_known_4, j_fat_5, j_flong_6, jm_f_7, jn_f_8, jf_f_9, hm10, hm⟩ := tp_b7_e hm
      refine tp_callv (wr := []) (WS' := [(q_j, .inr (7, [.ref q_ji, .int j_in, .ref q_jo, .int j_out, .ref q_jm, .int j_made_3, .ref q_jn, .ref q_jf, .int j_known_4, .int j_fat_5, .int j_flong_6, .int j_told, .int j_at, .int j_end, .int j_fault, .int j_fp])), (q_ji, .inl (cB, 10000, .inl ji_f)), (q_jo, .inl (cB, 10000, .inl jo_f)), (q_jm, .inl (cB, 20000, .inl jm_f_7)), (q_jn, .inl (cI, 10001, .inl jn_f_8)), (q_jf, .inl (cI, 10001, .inl jf_f_9))]) (va_runV (As := [.int (0 : Int32), .int j_in, .int x1]) (rest := []) hF (ct_Mo_putBlock (l := l) (D := D) (cB := cB) (cI := cI) (tM := tM) (q_j := q_j) (q_ji := q_ji) (q_jo := q_jo) (q_jm := q_jm) (q_jn := q_jn) (q_jf := q_jf) (j_in := j_in) (j_out := j_out) (j_made := (0 : Int32)) (j_known := j_known) (j_fat := j_fat) (j_flong := j_flong) (j_told := j_told) (j_at := j_at) (j_end := j_end) (j_fault := j_fault) (j_fp := j_fp) (ji_f := ji_f) (jo_f := jo_f) (jm_f := jm_f) (jn_f := jn_f) (jf_f := jf_f) (x1 := (0 : Int32)) (x2 := j_in) (x3 := x1) (N := N) (j_made' := j_made_3) (j_known' := j_known_4) (j_fat' := j_fat_5) (j_flong' := j_flong_6) (jm_f' := jm_f_7) (jn_f' := jn_f_8) (jf_f' := jf_f_9) hm10 _) (cwV 3 hts (tpG_V wd_395 wd_396 wd_397 wd_340 wd_394) rfl rfl rfl ⟨rfl, yd_Mo_putBlock⟩ ⟨Nat.le_of_ble_eq_true rfl, Nat.le_of_ble_eq_true rfl⟩) ⟨tp_blind, va_recv hw.1 hw.2.1 (ci := 7) (q0 := 0) rfl rfl, tp_pre hw [0, 1, 2, 3, 4, 5] rfl rfl⟩ rfl rfl hl.1 rfl (lv_room (Nat.le_of_ble_eq_true rfl)) d_Mo_pack_23 ⟨Nat.le_of_ble_eq_true rfl, Nat.le_of_ble_eq_true rfl⟩) hw [0, 1, 2, 3, 4, 5] [] [0, 1, 2, 3, 4, 5] rfl rfl rfl (by decide) rfl rfl (fun H locs hw => ?_)
      refine lv_aload_n hx hb d_Mo_pack_26 rfl (lv_at hl 0 rfl) ?_
      refine tp_get (v := .int j_made_3) (C := R_Mo) (T := T_Mo) hx hb hts fw_Mo hown hw 0 rfl rfl 5 (by decide +kernel) (hts _ wd_337) rfl d_Mo_pack_27 ?_
      refine lv_sipush (v := (10000 : Int32)) hx hb d_Mo_pack_30 (by decide +kernel) ?_
      refine lv_icmp_le (tgt := 40) hx hb d_Mo_pack_33 (by decide +kernel) (fun hc11 => ?_) (fun hc11 => ?_)
      · replace hm := tp_it hc11 hm
        refine lv_aload_n hx hb d_Mo_pack_40 rfl (lv_at hl 0 rfl) ?_
        obtain ⟨r12, j_out_13, jo_f_14, hm15, hm⟩ := tp_b3_e hm
        refine tp_calli (wr := []) (WS' := [(q_j, .inr (7, [.ref q_ji, .int j_in, .ref q_jo, .int j_out_13, .ref q_jm, .int j_made_3, .ref q_jn, .ref q_jf, .int j_known_4, .int j_fat_5, .int j_flong_6, .int j_told, .int j_at, .int j_end, .int j_fault, .int j_fp])), (q_ji, .inl (cB, 10000, .inl ji_f)), (q_jo, .inl (cB, 10000, .inl jo_f_14)), (q_jm, .inl (cB, 20000, .inl jm_f_7)), (q_jn, .inl (cI, 10001, .inl jn_f_8)), (q_jf, .inl (cI, 10001, .inl jf_f_9))]) (va_runV (As := []) (rest := []) hF (ct_Mo_settle (l := l) (D := D) (cB := cB) (cI := cI) (tM := tM) (q_j := q_j) (q_ji := q_ji) (q_jo := q_jo) (q_jm := q_jm) (q_jn := q_jn) (q_jf := q_jf) (j_in := j_in) (j_out := j_out) (j_made := j_made_3) (j_known := j_known_4) (j_fat := j_fat_5) (j_flong := j_flong_6) (j_told := j_told) (j_at := j_at) (j_end := j_end) (j_fault := j_fault) (j_fp := j_fp) (ji_f := ji_f) (jo_f := jo_f) (jm_f := jm_f_7) (jn_f := jn_f_8) (jf_f := jf_f_9) (N := N) (r := r12) (j_out' := j_out_13) (jo_f' := jo_f_14) hm15 _) (cwV 0 hts (tpG_V wd_399 wd_400 wd_401 wd_340 wd_398) rfl rfl rfl ⟨rfl, yd_Mo_settle⟩ ⟨Nat.le_of_ble_eq_true rfl, Nat.le_of_ble_eq_true rfl⟩) ⟨tp_blind, va_recv hw.1 hw.2.1 (ci := 7) (q0 := 0) rfl rfl, tp_pre hw [0, 1, 2, 3, 4, 5] rfl rfl⟩ rfl rfl hl.1 rfl (lv_room (Nat.le_of_ble_eq_true rfl)) d_Mo_pack_41 ⟨Nat.le_of_ble_eq_true rfl, Nat.le_of_ble_eq_true rfl⟩) hw [0, 1, 2, 3, 4, 5] [] [0, 1, 2, 3, 4, 5] rfl rfl rfl (by decide) rfl rfl (fun H locs hw => ?_)
        obtain ⟨rfl, rfl, rfl, rfl, rfl, rfl, rfl, rfl, rfl, rfl⟩ := tp_inj10 hm
        exact tp_iret hx hb hr hlocks hw d_Mo_pack_44
      · replace hm := tp_if hc11 hm
        refine lv_iconst (v := (-1 : Int32)) hx hb d_Mo_pack_36 (by decide +kernel) ?_
        refine lv_goto (tgt := 44) hx hb d_Mo_pack_37 (by decide +kernel) ?_
        obtain ⟨rfl, rfl, rfl, rfl, rfl, rfl, rfl, rfl, rfl, rfl⟩ := tp_inj10 hm
        exact tp_iret hx hb hr hlocks hw d_Mo_pack_44
    · replace hm := tp_if hc2 hm
      refine lv_iconst (v := (-1 : Int32)) hx hb d_Mo_pack_9 (by decide +kernel) ?_
      obtain ⟨rfl, rfl, rfl, rfl, rfl, rfl, rfl, rfl, rfl, rfl⟩ := tp_inj10 hm
      exact tp_iret hx hb hr hlocks hw d_Mo_pack_10
end
abbrev rm_Mo_fails : Room := { frames := 0, cells := 0, slots := 0, locals := 0 }
abbrev ws_Mo_fails : List Cond := .code y_Mo_fails c_Mo_fails 3 (some .boolean) :: tpG
noncomputable def m_Mo_fails (x1 : Int32) (x2 : Int32) (j_fault : Int32) (j_fp : Int32) : Option (Int32 × Int32 × Int32) :=
  if j_fault = 0 then
    some ((0 : Int32), x1, x2)
  else
    some ((0 : Int32), j_fault, j_fp)
section
variable {p : Program} {l : Launch} {e : Env} {s : State} {m : MethodId} {args : Array Value} {below : List Frame} {meth : Method} {c : Code} {A : Nat → Prop} {D : va_G} {cB cI : ClassId} {tM : Nat}
set_option maxHeartbeats 4000000 in
set_option maxRecDepth 100000 in
theorem ct_Mo_fails {q_j q_ji q_jo q_jm q_jn q_jf : Nat} {j_in : Int32} {j_out : Int32} {j_made : Int32} {j_known : Int32} {j_fat : Int32} {j_flong : Int32} {j_told : Int32} {j_at : Int32} {j_end : Int32} {j_fault : Int32} {j_fp : Int32} {ji_f : Nat → Int32} {jo_f : Nat → Int32} {jm_f : Nat → Int32} {jn_f : Nat → Int32} {jf_f : Nat → Int32} {x1 : Int32} {x2 : Int32} {r : Int32} {j_fault' : Int32} {j_fp' : Int32} (hm : m_Mo_fails x1 x2 j_fault j_fp = some (r, j_fault', j_fp')) (sz : Nat) : tp_Ci l y_Mo_fails ws_Mo_fails rm_Mo_fails D (tp_ty cB cI) tM [.ref q_j, .int x1, .int x2] [(q_j, .inr (7, [.ref q_ji, .int j_in, .ref q_jo, .int j_out, .ref q_jm, .int j_made, .ref q_jn, .ref q_jf, .int j_known, .int j_fat, .int j_flong, .int j_told, .int j_at, .int j_end, .int j_fault, .int j_fp])), (q_ji, .inl (cB, 10000, .inl ji_f)), (q_jo, .inl (cB, 10000, .inl jo_f)), (q_jm, .inl (cB, 20000, .inl jm_f)), (q_jn, .inl (cI, 10001, .inl jn_f)), (q_jf, .inl (cI, 10001, .inl jf_f))] sz r [(q_j, .inr (7, [.ref q_ji, .int j_in, .ref q_jo, .int j_out, .ref q_jm, .int j_made, .ref q_jn, .ref q_jf, .int j_known, .int j_fat, .int j_flong, .int j_told, .int j_at, .int j_end, .int j_fault', .int j_fp'])), (q_ji, .inl (cB, 10000, .inl ji_f)), (q_jo, .inl (cB, 10000, .inl jo_f)), (q_jm, .inl (cB, 20000, .inl jm_f)), (q_jn, .inl (cI, 10001, .inl jn_f)), (q_jf, .inl (cI, 10001, .inl jf_f))] := by
  refine Met.ofW (cc := c_Mo_fails) (maxL := 3) (ret := (some .boolean)) (by decide) rfl ?_
  intro p e s m args below meth c s₁ B hml hv
  obtain ⟨rfl, hv⟩ := hv
  have hw := tp_entry hv
  generalize va_A [(q_j, .inr (7, [.ref q_ji, .int j_in, .ref q_jo, .int j_out, .ref q_jm, .int j_made, .ref q_jn, .ref q_jf, .int j_known, .int j_fat, .int j_flong, .int j_told, .int j_at, .int j_end, .int j_fault, .int j_fp])), (q_ji, .inl (cB, 10000, .inl ji_f)), (q_jo, .inl (cB, 10000, .inl jo_f)), (q_jm, .inl (cB, 20000, .inl jm_f)), (q_jn, .inl (cI, 10001, .inl jn_f)), (q_jf, .inl (cI, 10001, .inl jf_f))] sz = A at hw ⊢
  have hx := B.exec
  have hb := B.bytes
  have hr := B.returns
  have hts0 := atoms_spec (ws := ws_Mo_fails) B.pre
  have hts := fun w h => hts0 w (List.mem_cons_of_mem _ h)
  have hown : s.vm.findClass R_Mo = some m.cls := findClass_of_methodNamed B.named
  have hlocks := B.notSynchronized
  have hF : CallFix p m c c_Mo_fails 3 s _ tpG R_Mo := ⟨hx, hb, hml, hown, hts⟩
  have hF2 : tp_F p m c c_Mo_fails 3 s _ tpG R_Mo meth (some .boolean) := ⟨hF, hr, hlocks⟩
  have hl := lv_entry ([.ref q_j, .int x1, .int x2]) (n := 3) (Nat.le_of_ble_eq_true rfl)
  rw [lg_entry_eq]
  generalize (lg_sl ([.ref q_j, .int x1, .int x2]) ++ List.replicate (3 - (lg_sl ([.ref q_j, .int x1, .int x2])).length) Slot.unset).toArray = ls at hl ⊢
  replace hl : lv_has ls 3 [(0, .ref q_j), (1, .int x1), (2, .int x2)] := hl
  unfold m_Mo_fails at hm
  refine lv_aload_n hx hb d_Mo_fails_0 rfl (lv_at hl 0 rfl) ?_
  refine tp_get (v := .int j_fault) (C := R_Mo) (T := T_Mo) hx hb hts fw_Mo hown hw 0 rfl rfl 14 (by decide +kernel) (hts _ wd_402) rfl d_Mo_fails_1 ?_
  refine lv_if_ne (tgt := 17) hx hb d_Mo_fails_4 (by decide +kernel) (fun hc1 => ?_) (fun hc1 => ?_)
  · replace hm := tp_if hc1 hm
    refine lv_iconst (v := (0 : Int32)) hx hb d_Mo_fails_17 (by decide +kernel) ?_
    obtain ⟨rfl, rfl, rfl⟩ := tp_inj3 hm
    exact tp_zret hx hb hr hlocks rfl hw d_Mo_fails_18
  · replace hm := tp_it hc1 hm
    refine lv_aload_n hx hb d_Mo_fails_7 rfl (lv_at hl 0 rfl) ?_
    refine lv_iload_n hx hb d_Mo_fails_8 rfl (lv_at hl 1 rfl) ?_
    refine tp_put (v := .int x1) (C := R_Mo) (T := T_Mo) (WS' := [(q_j, .inr (7, [.ref q_ji, .int j_in, .ref q_jo, .int j_out, .ref q_jm, .int j_made, .ref q_jn, .ref q_jf, .int j_known, .int j_fat, .int j_flong, .int j_told, .int j_at, .int j_end, .int x1, .int j_fp])), (q_ji, .inl (cB, 10000, .inl ji_f)), (q_jo, .inl (cB, 10000, .inl jo_f)), (q_jm, .inl (cB, 20000, .inl jm_f)), (q_jn, .inl (cI, 10001, .inl jn_f)), (q_jf, .inl (cI, 10001, .inl jf_f))]) hx hb hts fw_Mo ty_Mo ty_Mo_ok nm_Mo hown hw 0 rfl rfl 14 (by decide +kernel) (hts _ wd_402) rfl rfl rfl (Nat.le_of_ble_eq_true rfl) rfl d_Mo_fails_9 (fun H locs hw => ?_)
    refine lv_aload_n hx hb d_Mo_fails_12 rfl (lv_at hl 0 rfl) ?_
    refine lv_iload_n hx hb d_Mo_fails_13 rfl (lv_at hl 2 rfl) ?_
    refine tp_put (v := .int x2) (C := R_Mo) (T := T_Mo) (WS' := [(q_j, .inr (7, [.ref q_ji, .int j_in, .ref q_jo, .int j_out, .ref q_jm, .int j_made, .ref q_jn, .ref q_jf, .int j_known, .int j_fat, .int j_flong, .int j_told, .int j_at, .int j_end, .int x1, .int x2])), (q_ji, .inl (cB, 10000, .inl ji_f)), (q_jo, .inl (cB, 10000, .inl jo_f)), (q_jm, .inl (cB, 20000, .inl jm_f)), (q_jn, .inl (cI, 10001, .inl jn_f)), (q_jf, .inl (cI, 10001, .inl jf_f))]) hx hb hts fw_Mo ty_Mo ty_Mo_ok nm_Mo hown hw 0 rfl rfl 15 (by decide +kernel) (hts _ wd_403) rfl rfl rfl (Nat.le_of_ble_eq_true rfl) rfl d_Mo_fails_14 (fun H locs hw => ?_)
    refine lv_iconst (v := (0 : Int32)) hx hb d_Mo_fails_17 (by decide +kernel) ?_
    obtain ⟨rfl, rfl, rfl⟩ := tp_inj3 hm
    exact tp_zret hx hb hr hlocks rfl hw d_Mo_fails_18
end
abbrev rm_Mo_take : Room := { frames := 1, cells := 0, slots := 0, locals := 22 }
abbrev ws_Mo_take : List Cond := .code y_Mo_take c_Mo_take 5 (some .long) :: tpG
noncomputable def m_Mo_take_16 (N : Nat) (j_end : Int32) (ji_f : Nat → Int32) (rec16 : Int32 → Int64 → Int32 → Int32 → Int32 → Int32 → Option (Int64 × Int32 × Int32 × Int32)) (x1 : Int32) (x2 : Int64) (x4 : Int32) (j_at : Int32) (j_fault : Int32) (j_fp : Int32) : Option (Int64 × Int32 × Int32 × Int32) :=
  if x1 ≤ x4 then
    some (x2, j_at, j_fault, j_fp)
  else
    if j_at = j_end then
      tp_b3 (m_Mo_fails (1 : Int32) j_end j_fault j_fp) fun r6 j_fault_7 j_fp_8 =>
      some ((-1 : Int64), j_at, j_fault_7, j_fp_8)
    else
      tp_gd (tp_inb j_at 10000) <|
      tp_b0 (x2 ||| (((Int32.toInt64 (ji_f (Int32.toNatClampNeg j_at))) &&& (255 : Int64)) <<< (Int32.toInt64 ((8 : Int32) * x4) &&& 63))) fun y5 =>
      rec16 x1 y5 (x4 + (1 : Int32)) (j_at + (1 : Int32)) j_fault j_fp
noncomputable def m_Mo_take (N : Nat) (x1 : Int32) (j_at : Int32) (j_end : Int32) (j_fault : Int32) (j_fp : Int32) (ji_f : Nat → Int32) : Option (Int64 × Int32 × Int32 × Int32) :=
  if j_fault = 0 then
    tp_it6 (m_Mo_take_16 N j_end ji_f ) N x1 (0 : Int64) (0 : Int32) j_at j_fault j_fp
  else
    some ((-1 : Int64), j_at, j_fault, j_fp)
section
variable {p : Program} {l : Launch} {e : Env} {s : State} {m : MethodId} {args : Array Value} {below : List Frame} {meth : Method} {c : Code} {A : Nat → Prop} {D : va_G} {cB cI : ClassId} {tM : Nat}
set_option maxHeartbeats 4000000 in
set_option maxRecDepth 100000 in
theorem w_Mo_take_16 {q_j q_ji q_jo q_jm q_jn q_jf : Nat} {j_in : Int32} {j_out : Int32} {j_made : Int32} {j_known : Int32} {j_fat : Int32} {j_flong : Int32} {j_told : Int32} {j_end : Int32} {ji_f : Nat → Int32} {jo_f : Nat → Int32} {jm_f : Nat → Int32} {jn_f : Nat → Int32} {jf_f : Nat → Int32} {N : Nat} {r : Int64} {j_at' : Int32} {j_fault' : Int32} {j_fp' : Int32} (hF2 : tp_F p m c c_Mo_take 5 s args tpG R_Mo meth (some .long)) : ∀ (n : Nat), ∀ (x1 : Int32) (x2 : Int64) (x4 : Int32) (j_at : Int32) (j_fault : Int32) (j_fp : Int32) (H : Heap) (locs : List Loc) (ls : Array Slot), tp_it6 (m_Mo_take_16 N j_end ji_f ) n x1 x2 x4 j_at j_fault j_fp = some (r, j_at', j_fault', j_fp') → tp_Wd D (tp_ty cB cI) tM A s H locs [(q_j, .inr (7, [.ref q_ji, .int j_in, .ref q_jo, .int j_out, .ref q_jm, .int j_made, .ref q_jn, .ref q_jf, .int j_known, .int j_fat, .int j_flong, .int j_told, .int j_at, .int j_end, .int j_fault, .int j_fp])), (q_ji, .inl (cB, 10000, .inl ji_f)), (q_jo, .inl (cB, 10000, .inl jo_f)), (q_jm, .inl (cB, 20000, .inl jm_f)), (q_jn, .inl (cI, 10001, .inl jn_f)), (q_jf, .inl (cI, 10001, .inl jf_f))] → lv_has ls 5 [(0, .ref q_j), (1, .int x1), (2, .long x2), (4, .int x4)] → W p l e rm_Mo_take s m args below meth c H locs 0 0 (MQ below (tp_Ql D A r [(q_j, .inr (7, [.ref q_ji, .int j_in, .ref q_jo, .int j_out, .ref q_jm, .int j_made, .ref q_jn, .ref q_jf, .int j_known, .int j_fat, .int j_flong, .int j_told, .int j_at', .int j_end, .int j_fault', .int j_fp'])), (q_ji, .inl (cB, 10000, .inl ji_f)), (q_jo, .inl (cB, 10000, .inl jo_f)), (q_jm, .inl (cB, 20000, .inl jm_f)), (q_jn, .inl (cI, 10001, .inl jn_f)), (q_jf, .inl (cI, 10001, .inl jf_f))]) args s 0 0 A) (F0 m 16 ls []) := by
  obtain ⟨hF, hr, hlocks⟩ := id hF2
  obtain ⟨hx, hb, hml, hown, hts⟩ := id hF
  intro n
  induction n with
  | zero => intro x1 x2 x4 j_at j_fault j_fp H locs ls hm; exact absurd hm (by simp [tp_it6])
  | succ n ih16 =>
    intro x1 x2 x4 j_at j_fault j_fp H locs ls hm hw hl
    replace hm : m_Mo_take_16 N j_end ji_f  (tp_it6 (m_Mo_take_16 N j_end ji_f ) n) x1 x2 x4 j_at j_fault j_fp = some (r, j_at', j_fault', j_fp') := hm
    unfold m_Mo_take_16 at hm
    refine lv_iload hx hb d_Mo_take_16 (lv_at hl 3 rfl) ?_
    refine lv_iload_n hx hb d_Mo_take_18 rfl (lv_at hl 1 rfl) ?_
    refine lv_icmp_ge (tgt := 86) hx hb d_Mo_take_19 (by decide +kernel) (fun hc2 => ?_) (fun hc2 => ?_)
    · replace hm := tp_it hc2 hm
      refine lv_lload_n hx hb d_Mo_take_86 rfl (lv_at hl 2 rfl) ?_
      obtain ⟨rfl, rfl, rfl, rfl⟩ := tp_inj4 hm
      exact tp_lret hx hb hr hlocks hw d_Mo_take_87
    · replace hm := tp_if hc2 hm
      refine lv_aload_n hx hb d_Mo_take_22 rfl (lv_at hl 0 rfl) ?_
      refine tp_get (v := .int j_at) (C := R_Mo) (T := T_Mo) hx hb hts fw_Mo hown hw 0 rfl rfl 12 (by decide +kernel) (hts _ wd_405) rfl d_Mo_take_23 ?_
      refine lv_aload_n hx hb d_Mo_take_26 rfl (lv_at hl 0 rfl) ?_
      refine tp_get (v := .int j_end) (C := R_Mo) (T := T_Mo) hx hb hts fw_Mo hown hw 0 rfl rfl 13 (by decide +kernel) (hts _ wd_406) rfl d_Mo_take_27 ?_
      refine lv_icmp_ne (tgt := 47) hx hb d_Mo_take_30 (by decide +kernel) (fun hc3 => ?_) (fun hc3 => ?_)
      · replace hm := tp_if hc3 hm
        refine lv_lload_n hx hb d_Mo_take_47 rfl (lv_at hl 2 rfl) ?_
        refine lv_aload_n hx hb d_Mo_take_48 rfl (lv_at hl 0 rfl) ?_
        refine tp_get (v := .ref q_ji) (C := R_Mo) (T := T_Mo) hx hb hts fw_Mo hown hw 0 rfl rfl 0 (by decide +kernel) (hts _ wd_333) rfl d_Mo_take_49 ?_
        refine lv_aload_n hx hb d_Mo_take_52 rfl (lv_at hl 0 rfl) ?_
        refine tp_get (v := .int j_at) (C := R_Mo) (T := T_Mo) hx hb hts fw_Mo hown hw 0 rfl rfl 12 (by decide +kernel) (hts _ wd_405) rfl d_Mo_take_53 ?_
        obtain ⟨hi4, hm⟩ := tp_gd_e hm
        refine tp_bald hx hb hw 1 0 rfl rfl hi4 d_Mo_take_56 ?_
        refine lv_i2l (v := (Int32.toInt64 (ji_f (Int32.toNatClampNeg j_at)))) hx hb d_Mo_take_57 rfl ?_
        refine lv_ldc2 (v := (255 : Int64)) hx hb hown (hts _ wd_407) d_Mo_take_58 ?_
        refine lv_land hx hb d_Mo_take_61 ?_
        refine lv_bipush (v := (8 : Int32)) hx hb d_Mo_take_62 (by decide +kernel) ?_
        refine lv_iload hx hb d_Mo_take_64 (lv_at hl 3 rfl) ?_
        refine lv_imul hx hb d_Mo_take_66 ?_
        refine lv_lshl (v := (((Int32.toInt64 (ji_f (Int32.toNatClampNeg j_at))) &&& (255 : Int64)) <<< (Int32.toInt64 ((8 : Int32) * x4) &&& 63))) hx hb d_Mo_take_67 rfl ?_
        refine lv_lor hx hb d_Mo_take_68 ?_
        obtain ⟨y5, ey5, hm⟩ := tp_b0_e hm
        refine tp_topl ey5 ?_
        refine lv_lstore_n (lv' := [(2, .long y5), (0, .ref q_j), (1, .int x1), (4, .int x4)]) hx hb d_Mo_take_69 rfl hl (by decide +kernel) rfl (fun ls hl => ?_)
        refine lv_aload_n hx hb d_Mo_take_70 rfl (lv_at hl 1 rfl) ?_
        refine lv_dup hx hb d_Mo_take_71 rfl ?_
        refine tp_get (v := .int j_at) (C := R_Mo) (T := T_Mo) hx hb hts fw_Mo hown hw 0 rfl rfl 12 (by decide +kernel) (hts _ wd_405) rfl d_Mo_take_72 ?_
        refine lv_iconst (v := (1 : Int32)) hx hb d_Mo_take_75 (by decide +kernel) ?_
        refine lv_iadd hx hb d_Mo_take_76 ?_
        refine tp_put (v := .int (j_at + (1 : Int32))) (C := R_Mo) (T := T_Mo) (WS' := [(q_j, .inr (7, [.ref q_ji, .int j_in, .ref q_jo, .int j_out, .ref q_jm, .int j_made, .ref q_jn, .ref q_jf, .int j_known, .int j_fat, .int j_flong, .int j_told, .int (j_at + (1 : Int32)), .int j_end, .int j_fault, .int j_fp])), (q_ji, .inl (cB, 10000, .inl ji_f)), (q_jo, .inl (cB, 10000, .inl jo_f)), (q_jm, .inl (cB, 20000, .inl jm_f)), (q_jn, .inl (cI, 10001, .inl jn_f)), (q_jf, .inl (cI, 10001, .inl jf_f))]) hx hb hts fw_Mo ty_Mo ty_Mo_ok nm_Mo hown hw 0 rfl rfl 12 (by decide +kernel) (hts _ wd_405) rfl rfl rfl (Nat.le_of_ble_eq_true rfl) rfl d_Mo_take_77 (fun H locs hw => ?_)
        refine lv_iinc (v := (x4 + (1 : Int32))) (lv' := [(4, .int (x4 + (1 : Int32))), (2, .long y5), (0, .ref q_j), (1, .int x1)]) hx hb d_Mo_take_80 hl (k := 3) rfl rfl (by decide +kernel) rfl (fun ls hl => ?_)
        refine lv_goto (tgt := 16) hx hb d_Mo_take_83 (by decide +kernel) ?_
        exact ih16 _ _ _ _ _ _ _ _ _ hm hw (lv_sub hl [2, 3, 1, 0] rfl)
      · replace hm := tp_it hc3 hm
        refine lv_aload_n hx hb d_Mo_take_33 rfl (lv_at hl 0 rfl) ?_
        refine lv_iconst (v := (1 : Int32)) hx hb d_Mo_take_34 (by decide +kernel) ?_
        refine lv_aload_n hx hb d_Mo_take_35 rfl (lv_at hl 0 rfl) ?_
        refine tp_get (v := .int j_end) (C := R_Mo) (T := T_Mo) hx hb hts fw_Mo hown hw 0 rfl rfl 13 (by decide +kernel) (hts _ wd_406) rfl d_Mo_take_36 ?_
        obtain ⟨r6, j_fault_7, j_fp_8, hm9, hm⟩ := tp_b3_e hm
        refine tp_calli (wr := []) (WS' := [(q_j, .inr (7, [.ref q_ji, .int j_in, .ref q_jo, .int j_out, .ref q_jm, .int j_made, .ref q_jn, .ref q_jf, .int j_known, .int j_fat, .int j_flong, .int j_told, .int j_at, .int j_end, .int j_fault_7, .int j_fp_8])), (q_ji, .inl (cB, 10000, .inl ji_f)), (q_jo, .inl (cB, 10000, .inl jo_f)), (q_jm, .inl (cB, 20000, .inl jm_f)), (q_jn, .inl (cI, 10001, .inl jn_f)), (q_jf, .inl (cI, 10001, .inl jf_f))]) (va_runV (As := [.int (1 : Int32), .int j_end]) (rest := []) hF (ct_Mo_fails (l := l) (D := D) (cB := cB) (cI := cI) (tM := tM) (q_j := q_j) (q_ji := q_ji) (q_jo := q_jo) (q_jm := q_jm) (q_jn := q_jn) (q_jf := q_jf) (j_in := j_in) (j_out := j_out) (j_made := j_made) (j_known := j_known) (j_fat := j_fat) (j_flong := j_flong) (j_told := j_told) (j_at := j_at) (j_end := j_end) (j_fault := j_fault) (j_fp := j_fp) (ji_f := ji_f) (jo_f := jo_f) (jm_f := jm_f) (jn_f := jn_f) (jf_f := jf_f) (x1 := (1 : Int32)) (x2 := j_end) (r := r6) (j_fault' := j_fault_7) (j_fp' := j_fp_8) hm9 _) (cwV 2 hts (tpG_V wd_409 wd_410 wd_411 wd_340 wd_408) rfl rfl rfl ⟨rfl, yd_Mo_fails⟩ ⟨Nat.le_of_ble_eq_true rfl, Nat.le_of_ble_eq_true rfl⟩) ⟨tp_blind, va_recv hw.1 hw.2.1 (ci := 7) (q0 := 0) rfl rfl, tp_pre hw [0, 1, 2, 3, 4, 5] rfl rfl⟩ rfl rfl hl.1 rfl (lv_room (Nat.le_of_ble_eq_true rfl)) d_Mo_take_39 ⟨Nat.le_of_ble_eq_true rfl, Nat.le_of_ble_eq_true rfl⟩) hw [0, 1, 2, 3, 4, 5] [] [0, 1, 2, 3, 4, 5] rfl rfl rfl (by decide) rfl rfl (fun H locs hw => ?_)
        refine lv_pop hx hb d_Mo_take_42 rfl ?_
        refine lv_ldc2 (v := (-1 : Int64)) hx hb hown (hts _ wd_404) d_Mo_take_43 ?_
        obtain ⟨rfl, rfl, rfl, rfl⟩ := tp_inj4 hm
        exact tp_lret hx hb hr hlocks hw d_Mo_take_46
set_option maxHeartbeats 4000000 in
set_option maxRecDepth 100000 in
theorem ct_Mo_take {q_j q_ji q_jo q_jm q_jn q_jf : Nat} {j_in : Int32} {j_out : Int32} {j_made : Int32} {j_known : Int32} {j_fat : Int32} {j_flong : Int32} {j_told : Int32} {j_at : Int32} {j_end : Int32} {j_fault : Int32} {j_fp : Int32} {ji_f : Nat → Int32} {jo_f : Nat → Int32} {jm_f : Nat → Int32} {jn_f : Nat → Int32} {jf_f : Nat → Int32} {N : Nat} {x1 : Int32} {r : Int64} {j_at' : Int32} {j_fault' : Int32} {j_fp' : Int32} (hm : m_Mo_take N x1 j_at j_end j_fault j_fp ji_f = some (r, j_at', j_fault', j_fp')) (sz : Nat) : tp_Cl l y_Mo_take ws_Mo_take rm_Mo_take D (tp_ty cB cI) tM [.ref q_j, .int x1] [(q_j, .inr (7, [.ref q_ji, .int j_in, .ref q_jo, .int j_out, .ref q_jm, .int j_made, .ref q_jn, .ref q_jf, .int j_known, .int j_fat, .int j_flong, .int j_told, .int j_at, .int j_end, .int j_fault, .int j_fp])), (q_ji, .inl (cB, 10000, .inl ji_f)), (q_jo, .inl (cB, 10000, .inl jo_f)), (q_jm, .inl (cB, 20000, .inl jm_f)), (q_jn, .inl (cI, 10001, .inl jn_f)), (q_jf, .inl (cI, 10001, .inl jf_f))] sz r [(q_j, .inr (7, [.ref q_ji, .int j_in, .ref q_jo, .int j_out, .ref q_jm, .int j_made, .ref q_jn, .ref q_jf, .int j_known, .int j_fat, .int j_flong, .int j_told, .int j_at', .int j_end, .int j_fault', .int j_fp'])), (q_ji, .inl (cB, 10000, .inl ji_f)), (q_jo, .inl (cB, 10000, .inl jo_f)), (q_jm, .inl (cB, 20000, .inl jm_f)), (q_jn, .inl (cI, 10001, .inl jn_f)), (q_jf, .inl (cI, 10001, .inl jf_f))] := by
  refine Met.ofW (cc := c_Mo_take) (maxL := 5) (ret := (some .long)) (by decide) rfl ?_
  intro p e s m args below meth c s₁ B hml hv
  obtain ⟨rfl, hv⟩ := hv
  have hw := tp_entry hv
  generalize va_A [(q_j, .inr (7, [.ref q_ji, .int j_in, .ref q_jo, .int j_out, .ref q_jm, .int j_made, .ref q_jn, .ref q_jf, .int j_known, .int j_fat, .int j_flong, .int j_told, .int j_at, .int j_end, .int j_fault, .int j_fp])), (q_ji, .inl (cB, 10000, .inl ji_f)), (q_jo, .inl (cB, 10000, .inl jo_f)), (q_jm, .inl (cB, 20000, .inl jm_f)), (q_jn, .inl (cI, 10001, .inl jn_f)), (q_jf, .inl (cI, 10001, .inl jf_f))] sz = A at hw ⊢
  have hx := B.exec
  have hb := B.bytes
  have hr := B.returns
  have hts0 := atoms_spec (ws := ws_Mo_take) B.pre
  have hts := fun w h => hts0 w (List.mem_cons_of_mem _ h)
  have hown : s.vm.findClass R_Mo = some m.cls := findClass_of_methodNamed B.named
  have hlocks := B.notSynchronized
  have hF : CallFix p m c c_Mo_take 5 s _ tpG R_Mo := ⟨hx, hb, hml, hown, hts⟩
  have hF2 : tp_F p m c c_Mo_take 5 s _ tpG R_Mo meth (some .long) := ⟨hF, hr, hlocks⟩
  have hl := lv_entry ([.ref q_j, .int x1]) (n := 5) (Nat.le_of_ble_eq_true rfl)
  rw [lg_entry_eq]
  generalize (lg_sl ([.ref q_j, .int x1]) ++ List.replicate (5 - (lg_sl ([.ref q_j, .int x1])).length) Slot.unset).toArray = ls at hl ⊢
  replace hl : lv_has ls 5 [(0, .ref q_j), (1, .int x1)] := hl
  unfold m_Mo_take at hm
  refine lv_aload_n hx hb d_Mo_take_0 rfl (lv_at hl 0 rfl) ?_
  refine tp_get (v := .int j_fault) (C := R_Mo) (T := T_Mo) hx hb hts fw_Mo hown hw 0 rfl rfl 14 (by decide +kernel) (hts _ wd_402) rfl d_Mo_take_1 ?_
  refine lv_if_eq (tgt := 11) hx hb d_Mo_take_4 (by decide +kernel) (fun hc1 => ?_) (fun hc1 => ?_)
  · replace hm := tp_it hc1 hm
    refine lv_lconst (v := (0 : Int64)) hx hb d_Mo_take_11 (by decide +kernel) ?_
    refine lv_lstore_n (lv' := [(2, .long (0 : Int64)), (0, .ref q_j), (1, .int x1)]) hx hb d_Mo_take_12 rfl hl (by decide +kernel) rfl (fun ls hl => ?_)
    refine lv_iconst (v := (0 : Int32)) hx hb d_Mo_take_13 (by decide +kernel) ?_
    refine lv_istore (lv' := [(4, .int (0 : Int32)), (2, .long (0 : Int64)), (0, .ref q_j), (1, .int x1)]) hx hb d_Mo_take_14 hl (by decide +kernel) rfl (fun ls hl => ?_)
    exact w_Mo_take_16 hF2  N _ _ _ _ _ _ _ _ _ hm hw (lv_sub hl [2, 3, 1, 0] rfl)
  · replace hm := tp_if hc1 hm
    refine lv_ldc2 (v := (-1 : Int64)) hx hb hown (hts _ wd_404) d_Mo_take_7 ?_
    obtain ⟨rfl, rfl, rfl, rfl⟩ := tp_inj4 hm
    exact tp_lret hx hb hr hlocks hw d_Mo_take_10
end
abbrev rm_Mo_takeLength : Room := { frames := 2, cells := 0, slots := 0, locals := 46 }
abbrev ws_Mo_takeLength : List Cond := .code y_Mo_takeLength c_Mo_takeLength 8 (some .long) :: tpG
noncomputable def m_Mo_takeLength_93 (N : Nat) (j_end : Int32) (ji_f : Nat → Int32) (x1 : Int32) (x2 : Int32) (x3 : Int64) (j_at : Int32) (j_fault : Int32) (j_fp : Int32) : Option (Int64 × Int32 × Int32 × Int32) :=
  if (lg_cmp x3 (Int32.toInt64 x1)) ≤ 0 then
    if j_fault = 0 then
      some (x3, j_at, j_fault, j_fp)
    else
      some ((-1 : Int64), j_at, j_fault, j_fp)
  else
    tp_b3 (m_Mo_fails (3 : Int32) x2 j_fault j_fp) fun r16 j_fault_17 j_fp_18 =>
    if j_fault_17 = 0 then
      some (x3, j_at, j_fault_17, j_fp_18)
    else
      some ((-1 : Int64), j_at, j_fault_17, j_fp_18)
noncomputable def m_Mo_takeLength_60 (N : Nat) (j_end : Int32) (ji_f : Nat → Int32) (rec10 : Int32 → Int32 → Int64 → Int32 → Int32 → Int32 → Int32 → Option (Int64 × Int32 × Int32 × Int32)) (x1 : Int32) (x2 : Int32) (x3 : Int64) (x5 : Int32) (x6 : Int64) (j_at : Int32) (j_fault : Int32) (j_fp : Int32) : Option (Int64 × Int32 × Int32 × Int32) :=
  tp_b0 (x3 ||| ((x6 &&& (127 : Int64)) <<< (Int32.toInt64 ((7 : Int32) * x5) &&& 63))) fun y21 =>
  if 0 ≤ (lg_cmp x6 (128 : Int64)) then
    rec10 x1 x2 y21 (x5 + (1 : Int32)) j_at j_fault j_fp
  else
    m_Mo_takeLength_93 N j_end ji_f  x1 x2 y21 j_at j_fault j_fp
noncomputable def m_Mo_takeLength_10 (N : Nat) (j_end : Int32) (ji_f : Nat → Int32) (rec10 : Int32 → Int32 → Int64 → Int32 → Int32 → Int32 → Int32 → Option (Int64 × Int32 × Int32 × Int32)) (x1 : Int32) (x2 : Int32) (x3 : Int64) (x5 : Int32) (j_at : Int32) (j_fault : Int32) (j_fp : Int32) : Option (Int64 × Int32 × Int32 × Int32) :=
  if (5 : Int32) ≤ x5 then
    m_Mo_takeLength_93 N j_end ji_f  x1 x2 x3 j_at j_fault j_fp
  else
    tp_b4 (m_Mo_take N (1 : Int32) j_at j_end j_fault j_fp ji_f) fun r2 j_at_3 j_fault_4 j_fp_5 =>
    if 0 ≤ (lg_cmp r2 (0 : Int64)) then
      if x5 = (4 : Int32) then
        if (lg_cmp r2 (15 : Int64)) ≤ 0 then
          m_Mo_takeLength_60 N j_end ji_f rec10 x1 x2 x3 x5 r2 j_at_3 j_fault_4 j_fp_5
        else
          tp_b3 (m_Mo_fails (2 : Int32) x2 j_fault_4 j_fp_5) fun r10 j_fault_11 j_fp_12 =>
          some ((-1 : Int64), j_at_3, j_fault_11, j_fp_12)
      else
        m_Mo_takeLength_60 N j_end ji_f rec10 x1 x2 x3 x5 r2 j_at_3 j_fault_4 j_fp_5
    else
      some ((-1 : Int64), j_at_3, j_fault_4, j_fp_5)
noncomputable def m_Mo_takeLength (N : Nat) (x1 : Int32) (j_at : Int32) (j_end : Int32) (j_fault : Int32) (j_fp : Int32) (ji_f : Nat → Int32) : Option (Int64 × Int32 × Int32 × Int32) :=
  tp_it7 (m_Mo_takeLength_10 N j_end ji_f ) N x1 j_at (0 : Int64) (0 : Int32) j_at j_fault j_fp
section
variable {p : Program} {l : Launch} {e : Env} {s : State} {m : MethodId} {args : Array Value} {below : List Frame} {meth : Method} {c : Code} {A : Nat → Prop} {D : va_G} {cB cI : ClassId} {tM : Nat}
set_option maxHeartbeats 4000000 in
set_option maxRecDepth 100000 in
theorem w_Mo_takeLength_93 {q_j q_ji q_jo q_jm q_jn q_jf : Nat} {j_in : Int32} {j_out : Int32} {j_made : Int32} {j_known : Int32} {j_fat : Int32} {j_flong : Int32} {j_told : Int32} {j_end : Int32} {ji_f : Nat → Int32} {jo_f : Nat → Int32} {jm_f : Nat → Int32} {jn_f : Nat → Int32} {jf_f : Nat → Int32} {N : Nat} {r : Int64} {j_at' : Int32} {j_fault' : Int32} {j_fp' : Int32} (hF2 : tp_F p m c c_Mo_takeLength 8 s args tpG R_Mo meth (some .long)) : ∀ (x1 : Int32) (x2 : Int32) (x3 : Int64) (j_at : Int32) (j_fault : Int32) (j_fp : Int32) (H : Heap) (locs : List Loc) (ls : Array Slot), m_Mo_takeLength_93 N j_end ji_f  x1 x2 x3 j_at j_fault j_fp = some (r, j_at', j_fault', j_fp') → tp_Wd D (tp_ty cB cI) tM A s H locs [(q_j, .inr (7, [.ref q_ji, .int j_in, .ref q_jo, .int j_out, .ref q_jm, .int j_made, .ref q_jn, .ref q_jf, .int j_known, .int j_fat, .int j_flong, .int j_told, .int j_at, .int j_end, .int j_fault, .int j_fp])), (q_ji, .inl (cB, 10000, .inl ji_f)), (q_jo, .inl (cB, 10000, .inl jo_f)), (q_jm, .inl (cB, 20000, .inl jm_f)), (q_jn, .inl (cI, 10001, .inl jn_f)), (q_jf, .inl (cI, 10001, .inl jf_f))] → lv_has ls 8 [(0, .ref q_j), (1, .int x1), (2, .int x2), (3, .long x3)] → W p l e rm_Mo_takeLength s m args below meth c H locs 0 0 (MQ below (tp_Ql D A r [(q_j, .inr (7, [.ref q_ji, .int j_in, .ref q_jo, .int j_out, .ref q_jm, .int j_made, .ref q_jn, .ref q_jf, .int j_known, .int j_fat, .int j_flong, .int j_told, .int j_at', .int j_end, .int j_fault', .int j_fp'])), (q_ji, .inl (cB, 10000, .inl ji_f)), (q_jo, .inl (cB, 10000, .inl jo_f)), (q_jm, .inl (cB, 20000, .inl jm_f)), (q_jn, .inl (cI, 10001, .inl jn_f)), (q_jf, .inl (cI, 10001, .inl jf_f))]) args s 0 0 A) (F0 m 93 ls []) := by
  obtain ⟨hF, hr, hlocks⟩ := id hF2
  obtain ⟨hx, hb, hml, hown, hts⟩ := id hF
  intro x1 x2 x3 j_at j_fault j_fp H locs ls hm hw hl
  unfold m_Mo_takeLength_93 at hm
  refine lv_lload_n hx hb d_Mo_takeLength_93 rfl (lv_at hl 3 rfl) ?_
  refine lv_iload_n hx hb d_Mo_takeLength_94 rfl (lv_at hl 1 rfl) ?_
  refine lv_i2l (v := (Int32.toInt64 x1)) hx hb d_Mo_takeLength_95 rfl ?_
  refine W.lcmp hx hb d_Mo_takeLength_96 ?_
  refine lv_if_le (tgt := 107) hx hb d_Mo_takeLength_97 (by decide +kernel) (fun hc14 => ?_) (fun hc14 => ?_)
  · replace hm := tp_it hc14 hm
    refine lv_aload_n hx hb d_Mo_takeLength_107 rfl (lv_at hl 0 rfl) ?_
    refine tp_get (v := .int j_fault) (C := R_Mo) (T := T_Mo) hx hb hts fw_Mo hown hw 0 rfl rfl 14 (by decide +kernel) (hts _ wd_402) rfl d_Mo_takeLength_108 ?_
    refine lv_if_ne (tgt := 118) hx hb d_Mo_takeLength_111 (by decide +kernel) (fun hc15 => ?_) (fun hc15 => ?_)
    · replace hm := tp_if hc15 hm
      refine lv_ldc2 (v := (-1 : Int64)) hx hb hown (hts _ wd_404) d_Mo_takeLength_118 ?_
      obtain ⟨rfl, rfl, rfl, rfl⟩ := tp_inj4 hm
      exact tp_lret hx hb hr hlocks hw d_Mo_takeLength_121
    · replace hm := tp_it hc15 hm
      refine lv_lload_n hx hb d_Mo_takeLength_114 rfl (lv_at hl 3 rfl) ?_
      refine lv_goto (tgt := 121) hx hb d_Mo_takeLength_115 (by decide +kernel) ?_
      obtain ⟨rfl, rfl, rfl, rfl⟩ := tp_inj4 hm
      exact tp_lret hx hb hr hlocks hw d_Mo_takeLength_121
  · replace hm := tp_if hc14 hm
    refine lv_aload_n hx hb d_Mo_takeLength_100 rfl (lv_at hl 0 rfl) ?_
    refine lv_iconst (v := (3 : Int32)) hx hb d_Mo_takeLength_101 (by decide +kernel) ?_
    refine lv_iload_n hx hb d_Mo_takeLength_102 rfl (lv_at hl 2 rfl) ?_
    obtain ⟨r16, j_fault_17, j_fp_18, hm19, hm⟩ := tp_b3_e hm
    refine tp_calli (wr := []) (WS' := [(q_j, .inr (7, [.ref q_ji, .int j_in, .ref q_jo, .int j_out, .ref q_jm, .int j_made, .ref q_jn, .ref q_jf, .int j_known, .int j_fat, .int j_flong, .int j_told, .int j_at, .int j_end, .int j_fault_17, .int j_fp_18])), (q_ji, .inl (cB, 10000, .inl ji_f)), (q_jo, .inl (cB, 10000, .inl jo_f)), (q_jm, .inl (cB, 20000, .inl jm_f)), (q_jn, .inl (cI, 10001, .inl jn_f)), (q_jf, .inl (cI, 10001, .inl jf_f))]) (va_runV (As := [.int (3 : Int32), .int x2]) (rest := []) hF (ct_Mo_fails (l := l) (D := D) (cB := cB) (cI := cI) (tM := tM) (q_j := q_j) (q_ji := q_ji) (q_jo := q_jo) (q_jm := q_jm) (q_jn := q_jn) (q_jf := q_jf) (j_in := j_in) (j_out := j_out) (j_made := j_made) (j_known := j_known) (j_fat := j_fat) (j_flong := j_flong) (j_told := j_told) (j_at := j_at) (j_end := j_end) (j_fault := j_fault) (j_fp := j_fp) (ji_f := ji_f) (jo_f := jo_f) (jm_f := jm_f) (jn_f := jn_f) (jf_f := jf_f) (x1 := (3 : Int32)) (x2 := x2) (r := r16) (j_fault' := j_fault_17) (j_fp' := j_fp_18) hm19 _) (cwV 2 hts (tpG_V wd_409 wd_410 wd_411 wd_340 wd_408) rfl rfl rfl ⟨rfl, yd_Mo_fails⟩ ⟨Nat.le_of_ble_eq_true rfl, Nat.le_of_ble_eq_true rfl⟩) ⟨tp_blind, va_recv hw.1 hw.2.1 (ci := 7) (q0 := 0) rfl rfl, tp_pre hw [0, 1, 2, 3, 4, 5] rfl rfl⟩ rfl rfl hl.1 rfl (lv_room (Nat.le_of_ble_eq_true rfl)) d_Mo_takeLength_103 ⟨Nat.le_of_ble_eq_true rfl, Nat.le_of_ble_eq_true rfl⟩) hw [0, 1, 2, 3, 4, 5] [] [0, 1, 2, 3, 4, 5] rfl rfl rfl (by decide) rfl rfl (fun H locs hw => ?_)
    refine lv_pop hx hb d_Mo_takeLength_106 rfl ?_
    refine lv_aload_n hx hb d_Mo_takeLength_107 rfl (lv_at hl 0 rfl) ?_
    refine tp_get (v := .int j_fault_17) (C := R_Mo) (T := T_Mo) hx hb hts fw_Mo hown hw 0 rfl rfl 14 (by decide +kernel) (hts _ wd_402) rfl d_Mo_takeLength_108 ?_
    refine lv_if_ne (tgt := 118) hx hb d_Mo_takeLength_111 (by decide +kernel) (fun hc20 => ?_) (fun hc20 => ?_)
    · replace hm := tp_if hc20 hm
      refine lv_ldc2 (v := (-1 : Int64)) hx hb hown (hts _ wd_404) d_Mo_takeLength_118 ?_
      obtain ⟨rfl, rfl, rfl, rfl⟩ := tp_inj4 hm
      exact tp_lret hx hb hr hlocks hw d_Mo_takeLength_121
    · replace hm := tp_it hc20 hm
      refine lv_lload_n hx hb d_Mo_takeLength_114 rfl (lv_at hl 3 rfl) ?_
      refine lv_goto (tgt := 121) hx hb d_Mo_takeLength_115 (by decide +kernel) ?_
      obtain ⟨rfl, rfl, rfl, rfl⟩ := tp_inj4 hm
      exact tp_lret hx hb hr hlocks hw d_Mo_takeLength_121
set_option maxHeartbeats 4000000 in
set_option maxRecDepth 100000 in
theorem w_Mo_takeLength_60 {q_j q_ji q_jo q_jm q_jn q_jf : Nat} {j_in : Int32} {j_out : Int32} {j_made : Int32} {j_known : Int32} {j_fat : Int32} {j_flong : Int32} {j_told : Int32} {j_end : Int32} {ji_f : Nat → Int32} {jo_f : Nat → Int32} {jm_f : Nat → Int32} {jn_f : Nat → Int32} {jf_f : Nat → Int32} {N : Nat} {r : Int64} {j_at' : Int32} {j_fault' : Int32} {j_fp' : Int32} {rec10 : Int32 → Int32 → Int64 → Int32 → Int32 → Int32 → Int32 → Option (Int64 × Int32 × Int32 × Int32)} (hF2 : tp_F p m c c_Mo_takeLength 8 s args tpG R_Mo meth (some .long)) (ih10 : ∀ (x1 : Int32) (x2 : Int32) (x3 : Int64) (x5 : Int32) (j_at : Int32) (j_fault : Int32) (j_fp : Int32) (H : Heap) (locs : List Loc) (ls : Array Slot), rec10 x1 x2 x3 x5 j_at j_fault j_fp = some (r, j_at', j_fault', j_fp') → tp_Wd D (tp_ty cB cI) tM A s H locs [(q_j, .inr (7, [.ref q_ji, .int j_in, .ref q_jo, .int j_out, .ref q_jm, .int j_made, .ref q_jn, .ref q_jf, .int j_known, .int j_fat, .int j_flong, .int j_told, .int j_at, .int j_end, .int j_fault, .int j_fp])), (q_ji, .inl (cB, 10000, .inl ji_f)), (q_jo, .inl (cB, 10000, .inl jo_f)), (q_jm, .inl (cB, 20000, .inl jm_f)), (q_jn, .inl (cI, 10001, .inl jn_f)), (q_jf, .inl (cI, 10001, .inl jf_f))] → lv_has ls 8 [(0, .ref q_j), (1, .int x1), (2, .int x2), (3, .long x3), (5, .int x5)] → W p l e rm_Mo_takeLength s m args below meth c H locs 0 0 (MQ below (tp_Ql D A r [(q_j, .inr (7, [.ref q_ji, .int j_in, .ref q_jo, .int j_out, .ref q_jm, .int j_made, .ref q_jn, .ref q_jf, .int j_known, .int j_fat, .int j_flong, .int j_told, .int j_at', .int j_end, .int j_fault', .int j_fp'])), (q_ji, .inl (cB, 10000, .inl ji_f)), (q_jo, .inl (cB, 10000, .inl jo_f)), (q_jm, .inl (cB, 20000, .inl jm_f)), (q_jn, .inl (cI, 10001, .inl jn_f)), (q_jf, .inl (cI, 10001, .inl jf_f))]) args s 0 0 A) (F0 m 10 ls [])) : ∀ (x1 : Int32) (x2 : Int32) (x3 : Int64) (x5 : Int32) (x6 : Int64) (j_at : Int32) (j_fault : Int32) (j_fp : Int32) (H : Heap) (locs : List Loc) (ls : Array Slot), m_Mo_takeLength_60 N j_end ji_f rec10 x1 x2 x3 x5 x6 j_at j_fault j_fp = some (r, j_at', j_fault', j_fp') → tp_Wd D (tp_ty cB cI) tM A s H locs [(q_j, .inr (7, [.ref q_ji, .int j_in, .ref q_jo, .int j_out, .ref q_jm, .int j_made, .ref q_jn, .ref q_jf, .int j_known, .int j_fat, .int j_flong, .int j_told, .int j_at, .int j_end, .int j_fault, .int j_fp])), (q_ji, .inl (cB, 10000, .inl ji_f)), (q_jo, .inl (cB, 10000, .inl jo_f)), (q_jm, .inl (cB, 20000, .inl jm_f)), (q_jn, .inl (cI, 10001, .inl jn_f)), (q_jf, .inl (cI, 10001, .inl jf_f))] → lv_has ls 8 [(0, .ref q_j), (1, .int x1), (2, .int x2), (3, .long x3), (5, .int x5), (6, .long x6)] → W p l e rm_Mo_takeLength s m args below meth c H locs 0 0 (MQ below (tp_Ql D A r [(q_j, .inr (7, [.ref q_ji, .int j_in, .ref q_jo, .int j_out, .ref q_jm, .int j_made, .ref q_jn, .ref q_jf, .int j_known, .int j_fat, .int j_flong, .int j_told, .int j_at', .int j_end, .int j_fault', .int j_fp'])), (q_ji, .inl (cB, 10000, .inl ji_f)), (q_jo, .inl (cB, 10000, .inl jo_f)), (q_jm, .inl (cB, 20000, .inl jm_f)), (q_jn, .inl (cI, 10001, .inl jn_f)), (q_jf, .inl (cI, 10001, .inl jf_f))]) args s 0 0 A) (F0 m 60 ls []) := by
  obtain ⟨hF, hr, hlocks⟩ := id hF2
  obtain ⟨hx, hb, hml, hown, hts⟩ := id hF
  intro x1 x2 x3 x5 x6 j_at j_fault j_fp H locs ls hm hw hl
  unfold m_Mo_takeLength_60 at hm
  refine lv_lload_n hx hb d_Mo_takeLength_60 rfl (lv_at hl 3 rfl) ?_
  refine lv_lload hx hb d_Mo_takeLength_61 (lv_at hl 5 rfl) ?_
  refine lv_ldc2 (v := (127 : Int64)) hx hb hown (hts _ wd_417) d_Mo_takeLength_63 ?_
  refine lv_land hx hb d_Mo_takeLength_66 ?_
  refine lv_bipush (v := (7 : Int32)) hx hb d_Mo_takeLength_67 (by decide +kernel) ?_
  refine lv_iload hx hb d_Mo_takeLength_69 (lv_at hl 4 rfl) ?_
  refine lv_imul hx hb d_Mo_takeLength_71 ?_
  refine lv_lshl (v := ((x6 &&& (127 : Int64)) <<< (Int32.toInt64 ((7 : Int32) * x5) &&& 63))) hx hb d_Mo_takeLength_72 rfl ?_
  refine lv_lor hx hb d_Mo_takeLength_73 ?_
  obtain ⟨y21, ey21, hm⟩ := tp_b0_e hm
  refine tp_topl ey21 ?_
  refine lv_lstore_n (lv' := [(3, .long y21), (0, .ref q_j), (1, .int x1), (2, .int x2), (5, .int x5), (6, .long x6)]) hx hb d_Mo_takeLength_74 rfl hl (by decide +kernel) rfl (fun ls hl => ?_)
  refine lv_lload hx hb d_Mo_takeLength_75 (lv_at hl 5 rfl) ?_
  refine lv_ldc2 (v := (128 : Int64)) hx hb hown (hts _ wd_418) d_Mo_takeLength_77 ?_
  refine W.lcmp hx hb d_Mo_takeLength_80 ?_
  refine lv_if_ge (tgt := 87) hx hb d_Mo_takeLength_81 (by decide +kernel) (fun hc22 => ?_) (fun hc22 => ?_)
  · replace hm := tp_it hc22 hm
    refine lv_iinc (v := (x5 + (1 : Int32))) (lv' := [(5, .int (x5 + (1 : Int32))), (3, .long y21), (0, .ref q_j), (1, .int x1), (2, .int x2), (6, .long x6)]) hx hb d_Mo_takeLength_87 hl (k := 4) rfl rfl (by decide +kernel) rfl (fun ls hl => ?_)
    refine lv_goto (tgt := 10) hx hb d_Mo_takeLength_90 (by decide +kernel) ?_
    exact ih10 _ _ _ _ _ _ _ _ _ _ hm hw (lv_sub hl [2, 3, 4, 1, 0] rfl)
  · replace hm := tp_if hc22 hm
    refine lv_goto (tgt := 93) hx hb d_Mo_takeLength_84 (by decide +kernel) ?_
    exact w_Mo_takeLength_93 hF2  _ _ _ _ _ _ _ _ _ hm hw (lv_sub hl [1, 2, 3, 0] rfl)
set_option maxHeartbeats 4000000 in
set_option maxRecDepth 100000 in
theorem w_Mo_takeLength_10 {q_j q_ji q_jo q_jm q_jn q_jf : Nat} {j_in : Int32} {j_out : Int32} {j_made : Int32} {j_known : Int32} {j_fat : Int32} {j_flong : Int32} {j_told : Int32} {j_end : Int32} {ji_f : Nat → Int32} {jo_f : Nat → Int32} {jm_f : Nat → Int32} {jn_f : Nat → Int32} {jf_f : Nat → Int32} {N : Nat} {r : Int64} {j_at' : Int32} {j_fault' : Int32} {j_fp' : Int32} (hF2 : tp_F p m c c_Mo_takeLength 8 s args tpG R_Mo meth (some .long)) : ∀ (n : Nat), ∀ (x1 : Int32) (x2 : Int32) (x3 : Int64) (x5 : Int32) (j_at : Int32) (j_fault : Int32) (j_fp : Int32) (H : Heap) (locs : List Loc) (ls : Array Slot), tp_it7 (m_Mo_takeLength_10 N j_end ji_f ) n x1 x2 x3 x5 j_at j_fault j_fp = some (r, j_at', j_fault', j_fp') → tp_Wd D (tp_ty cB cI) tM A s H locs [(q_j, .inr (7, [.ref q_ji, .int j_in, .ref q_jo, .int j_out, .ref q_jm, .int j_made, .ref q_jn, .ref q_jf, .int j_known, .int j_fat, .int j_flong, .int j_told, .int j_at, .int j_end, .int j_fault, .int j_fp])), (q_ji, .inl (cB, 10000, .inl ji_f)), (q_jo, .inl (cB, 10000, .inl jo_f)), (q_jm, .inl (cB, 20000, .inl jm_f)), (q_jn, .inl (cI, 10001, .inl jn_f)), (q_jf, .inl (cI, 10001, .inl jf_f))] → lv_has ls 8 [(0, .ref q_j), (1, .int x1), (2, .int x2), (3, .long x3), (5, .int x5)] → W p l e rm_Mo_takeLength s m args below meth c H locs 0 0 (MQ below (tp_Ql D A r [(q_j, .inr (7, [.ref q_ji, .int j_in, .ref q_jo, .int j_out, .ref q_jm, .int j_made, .ref q_jn, .ref q_jf, .int j_known, .int j_fat, .int j_flong, .int j_told, .int j_at', .int j_end, .int j_fault', .int j_fp'])), (q_ji, .inl (cB, 10000, .inl ji_f)), (q_jo, .inl (cB, 10000, .inl jo_f)), (q_jm, .inl (cB, 20000, .inl jm_f)), (q_jn, .inl (cI, 10001, .inl jn_f)), (q_jf, .inl (cI, 10001, .inl jf_f))]) args s 0 0 A) (F0 m 10 ls []) := by
  obtain ⟨hF, hr, hlocks⟩ := id hF2
  obtain ⟨hx, hb, hml, hown, hts⟩ := id hF
  intro n
  induction n with
  | zero => intro x1 x2 x3 x5 j_at j_fault j_fp H locs ls hm; exact absurd hm (by simp [tp_it7])
  | succ n ih10 =>
    intro x1 x2 x3 x5 j_at j_fault j_fp H locs ls hm hw hl
    replace hm : m_Mo_takeLength_10 N j_end ji_f  (tp_it7 (m_Mo_takeLength_10 N j_end ji_f ) n) x1 x2 x3 x5 j_at j_fault j_fp = some (r, j_at', j_fault', j_fp') := hm
    unfold m_Mo_takeLength_10 at hm
    refine lv_iload hx hb d_Mo_takeLength_10 (lv_at hl 4 rfl) ?_
    refine lv_iconst (v := (5 : Int32)) hx hb d_Mo_takeLength_12 (by decide +kernel) ?_
    refine lv_icmp_ge (tgt := 93) hx hb d_Mo_takeLength_13 (by decide +kernel) (fun hc1 => ?_) (fun hc1 => ?_)
    · replace hm := tp_it hc1 hm
      exact w_Mo_takeLength_93 hF2  _ _ _ _ _ _ _ _ _ hm hw (lv_sub hl [0, 1, 2, 3] rfl)
    · replace hm := tp_if hc1 hm
      refine lv_aload_n hx hb d_Mo_takeLength_16 rfl (lv_at hl 0 rfl) ?_
      refine lv_iconst (v := (1 : Int32)) hx hb d_Mo_takeLength_17 (by decide +kernel) ?_
      obtain ⟨r2, j_at_3, j_fault_4, j_fp_5, hm6, hm⟩ := tp_b4_e hm
      refine tp_calll (wr := []) (WS' := [(q_j, .inr (7, [.ref q_ji, .int j_in, .ref q_jo, .int j_out, .ref q_jm, .int j_made, .ref q_jn, .ref q_jf, .int j_known, .int j_fat, .int j_flong, .int j_told, .int j_at_3, .int j_end, .int j_fault_4, .int j_fp_5])), (q_ji, .inl (cB, 10000, .inl ji_f)), (q_jo, .inl (cB, 10000, .inl jo_f)), (q_jm, .inl (cB, 20000, .inl jm_f)), (q_jn, .inl (cI, 10001, .inl jn_f)), (q_jf, .inl (cI, 10001, .inl jf_f))]) (va_runV (As := [.int (1 : Int32)]) (rest := []) hF (ct_Mo_take (l := l) (D := D) (cB := cB) (cI := cI) (tM := tM) (q_j := q_j) (q_ji := q_ji) (q_jo := q_jo) (q_jm := q_jm) (q_jn := q_jn) (q_jf := q_jf) (j_in := j_in) (j_out := j_out) (j_made := j_made) (j_known := j_known) (j_fat := j_fat) (j_flong := j_flong) (j_told := j_told) (j_at := j_at) (j_end := j_end) (j_fault := j_fault) (j_fp := j_fp) (ji_f := ji_f) (jo_f := jo_f) (jm_f := jm_f) (jn_f := jn_f) (jf_f := jf_f) (x1 := (1 : Int32)) (N := N) (r := r2) (j_at' := j_at_3) (j_fault' := j_fault_4) (j_fp' := j_fp_5) hm6 _) (cwV 1 hts (tpG_V wd_413 wd_414 wd_415 wd_340 wd_412) rfl rfl rfl ⟨rfl, yd_Mo_take⟩ ⟨Nat.le_of_ble_eq_true rfl, Nat.le_of_ble_eq_true rfl⟩) ⟨tp_blind, va_recv hw.1 hw.2.1 (ci := 7) (q0 := 0) rfl rfl, tp_pre hw [0, 1, 2, 3, 4, 5] rfl rfl⟩ rfl rfl hl.1 rfl (lv_room (Nat.le_of_ble_eq_true rfl)) d_Mo_takeLength_18 ⟨Nat.le_of_ble_eq_true rfl, Nat.le_of_ble_eq_true rfl⟩) hw [0, 1, 2, 3, 4, 5] [] [0, 1, 2, 3, 4, 5] rfl rfl rfl (by decide) rfl rfl (fun H locs hw => ?_)
      refine lv_lstore (lv' := [(6, .long r2), (0, .ref q_j), (1, .int x1), (2, .int x2), (3, .long x3), (5, .int x5)]) hx hb d_Mo_takeLength_21 hl (by decide +kernel) rfl (fun ls hl => ?_)
      refine lv_lload hx hb d_Mo_takeLength_23 (lv_at hl 0 rfl) ?_
      refine lv_lconst (v := (0 : Int64)) hx hb d_Mo_takeLength_25 (by decide +kernel) ?_
      refine W.lcmp hx hb d_Mo_takeLength_26 ?_
      refine lv_if_ge (tgt := 34) hx hb d_Mo_takeLength_27 (by decide +kernel) (fun hc7 => ?_) (fun hc7 => ?_)
      · replace hm := tp_it hc7 hm
        refine lv_iload hx hb d_Mo_takeLength_34 (lv_at hl 5 rfl) ?_
        refine lv_iconst (v := (4 : Int32)) hx hb d_Mo_takeLength_36 (by decide +kernel) ?_
        refine lv_icmp_ne (tgt := 60) hx hb d_Mo_takeLength_37 (by decide +kernel) (fun hc8 => ?_) (fun hc8 => ?_)
        · replace hm := tp_if hc8 hm
          exact w_Mo_takeLength_60 hF2 ih10 _ _ _ _ _ _ _ _ _ _ _ hm hw (lv_sub hl [1, 2, 3, 4, 5, 0] rfl)
        · replace hm := tp_it hc8 hm
          refine lv_lload hx hb d_Mo_takeLength_40 (lv_at hl 0 rfl) ?_
          refine lv_ldc2 (v := (15 : Int64)) hx hb hown (hts _ wd_416) d_Mo_takeLength_42 ?_
          refine W.lcmp hx hb d_Mo_takeLength_45 ?_
          refine lv_if_le (tgt := 60) hx hb d_Mo_takeLength_46 (by decide +kernel) (fun hc9 => ?_) (fun hc9 => ?_)
          · replace hm := tp_it hc9 hm
            exact w_Mo_takeLength_60 hF2 ih10 _ _ _ _ _ _ _ _ _ _ _ hm hw (lv_sub hl [1, 2, 3, 4, 5, 0] rfl)
          · replace hm := tp_if hc9 hm
            refine lv_aload_n hx hb d_Mo_takeLength_49 rfl (lv_at hl 1 rfl) ?_
            refine lv_iconst (v := (2 : Int32)) hx hb d_Mo_takeLength_50 (by decide +kernel) ?_
            refine lv_iload_n hx hb d_Mo_takeLength_51 rfl (lv_at hl 3 rfl) ?_
            obtain ⟨r10, j_fault_11, j_fp_12, hm13, hm⟩ := tp_b3_e hm
            refine tp_calli (wr := []) (WS' := [(q_j, .inr (7, [.ref q_ji, .int j_in, .ref q_jo, .int j_out, .ref q_jm, .int j_made, .ref q_jn, .ref q_jf, .int j_known, .int j_fat, .int j_flong, .int j_told, .int j_at_3, .int j_end, .int j_fault_11, .int j_fp_12])), (q_ji, .inl (cB, 10000, .inl ji_f)), (q_jo, .inl (cB, 10000, .inl jo_f)), (q_jm, .inl (cB, 20000, .inl jm_f)), (q_jn, .inl (cI, 10001, .inl jn_f)), (q_jf, .inl (cI, 10001, .inl jf_f))]) (va_runV (As := [.int (2 : Int32), .int x2]) (rest := []) hF (ct_Mo_fails (l := l) (D := D) (cB := cB) (cI := cI) (tM := tM) (q_j := q_j) (q_ji := q_ji) (q_jo := q_jo) (q_jm := q_jm) (q_jn := q_jn) (q_jf := q_jf) (j_in := j_in) (j_out := j_out) (j_made := j_made) (j_known := j_known) (j_fat := j_fat) (j_flong := j_flong) (j_told := j_told) (j_at := j_at_3) (j_end := j_end) (j_fault := j_fault_4) (j_fp := j_fp_5) (ji_f := ji_f) (jo_f := jo_f) (jm_f := jm_f) (jn_f := jn_f) (jf_f := jf_f) (x1 := (2 : Int32)) (x2 := x2) (r := r10) (j_fault' := j_fault_11) (j_fp' := j_fp_12) hm13 _) (cwV 2 hts (tpG_V wd_409 wd_410 wd_411 wd_340 wd_408) rfl rfl rfl ⟨rfl, yd_Mo_fails⟩ ⟨Nat.le_of_ble_eq_true rfl, Nat.le_of_ble_eq_true rfl⟩) ⟨tp_blind, va_recv hw.1 hw.2.1 (ci := 7) (q0 := 0) rfl rfl, tp_pre hw [0, 1, 2, 3, 4, 5] rfl rfl⟩ rfl rfl hl.1 rfl (lv_room (Nat.le_of_ble_eq_true rfl)) d_Mo_takeLength_52 ⟨Nat.le_of_ble_eq_true rfl, Nat.le_of_ble_eq_true rfl⟩) hw [0, 1, 2, 3, 4, 5] [] [0, 1, 2, 3, 4, 5] rfl rfl rfl (by decide) rfl rfl (fun H locs hw => ?_)
            refine lv_pop hx hb d_Mo_takeLength_55 rfl ?_
            refine lv_ldc2 (v := (-1 : Int64)) hx hb hown (hts _ wd_404) d_Mo_takeLength_56 ?_
            obtain ⟨rfl, rfl, rfl, rfl⟩ := tp_inj4 hm
            exact tp_lret hx hb hr hlocks hw d_Mo_takeLength_59
      · replace hm := tp_if hc7 hm
        refine lv_ldc2 (v := (-1 : Int64)) hx hb hown (hts _ wd_404) d_Mo_takeLength_30 ?_
        obtain ⟨rfl, rfl, rfl, rfl⟩ := tp_inj4 hm
        exact tp_lret hx hb hr hlocks hw d_Mo_takeLength_33
set_option maxHeartbeats 4000000 in
set_option maxRecDepth 100000 in
theorem ct_Mo_takeLength {q_j q_ji q_jo q_jm q_jn q_jf : Nat} {j_in : Int32} {j_out : Int32} {j_made : Int32} {j_known : Int32} {j_fat : Int32} {j_flong : Int32} {j_told : Int32} {j_at : Int32} {j_end : Int32} {j_fault : Int32} {j_fp : Int32} {ji_f : Nat → Int32} {jo_f : Nat → Int32} {jm_f : Nat → Int32} {jn_f : Nat → Int32} {jf_f : Nat → Int32} {N : Nat} {x1 : Int32} {r : Int64} {j_at' : Int32} {j_fault' : Int32} {j_fp' : Int32} (hm : m_Mo_takeLength N x1 j_at j_end j_fault j_fp ji_f = some (r, j_at', j_fault', j_fp')) (sz : Nat) : tp_Cl l y_Mo_takeLength ws_Mo_takeLength rm_Mo_takeLength D (tp_ty cB cI) tM [.ref q_j, .int x1] [(q_j, .inr (7, [.ref q_ji, .int j_in, .ref q_jo, .int j_out, .ref q_jm, .int j_made, .ref q_jn, .ref q_jf, .int j_known, .int j_fat, .int j_flong, .int j_told, .int j_at, .int j_end, .int j_fault, .int j_fp])), (q_ji, .inl (cB, 10000, .inl ji_f)), (q_jo, .inl (cB, 10000, .inl jo_f)), (q_jm, .inl (cB, 20000, .inl jm_f)), (q_jn, .inl (cI, 10001, .inl jn_f)), (q_jf, .inl (cI, 10001, .inl jf_f))] sz r [(q_j, .inr (7, [.ref q_ji, .int j_in, .ref q_jo, .int j_out, .ref q_jm, .int j_made, .ref q_jn, .ref q_jf, .int j_known, .int j_fat, .int j_flong, .int j_told, .int j_at', .int j_end, .int j_fault', .int j_fp'])), (q_ji, .inl (cB, 10000, .inl ji_f)), (q_jo, .inl (cB, 10000, .inl jo_f)), (q_jm, .inl (cB, 20000, .inl jm_f)), (q_jn, .inl (cI, 10001, .inl jn_f)), (q_jf, .inl (cI, 10001, .inl jf_f))] := by
  refine Met.ofW (cc := c_Mo_takeLength) (maxL := 8) (ret := (some .long)) (by decide) rfl ?_
  intro p e s m args below meth c s₁ B hml hv
  obtain ⟨rfl, hv⟩ := hv
  have hw := tp_entry hv
  generalize va_A [(q_j, .inr (7, [.ref q_ji, .int j_in, .ref q_jo, .int j_out, .ref q_jm, .int j_made, .ref q_jn, .ref q_jf, .int j_known, .int j_fat, .int j_flong, .int j_told, .int j_at, .int j_end, .int j_fault, .int j_fp])), (q_ji, .inl (cB, 10000, .inl ji_f)), (q_jo, .inl (cB, 10000, .inl jo_f)), (q_jm, .inl (cB, 20000, .inl jm_f)), (q_jn, .inl (cI, 10001, .inl jn_f)), (q_jf, .inl (cI, 10001, .inl jf_f))] sz = A at hw ⊢
  have hx := B.exec
  have hb := B.bytes
  have hr := B.returns
  have hts0 := atoms_spec (ws := ws_Mo_takeLength) B.pre
  have hts := fun w h => hts0 w (List.mem_cons_of_mem _ h)
  have hown : s.vm.findClass R_Mo = some m.cls := findClass_of_methodNamed B.named
  have hlocks := B.notSynchronized
  have hF : CallFix p m c c_Mo_takeLength 8 s _ tpG R_Mo := ⟨hx, hb, hml, hown, hts⟩
  have hF2 : tp_F p m c c_Mo_takeLength 8 s _ tpG R_Mo meth (some .long) := ⟨hF, hr, hlocks⟩
  have hl := lv_entry ([.ref q_j, .int x1]) (n := 8) (Nat.le_of_ble_eq_true rfl)
  rw [lg_entry_eq]
  generalize (lg_sl ([.ref q_j, .int x1]) ++ List.replicate (8 - (lg_sl ([.ref q_j, .int x1])).length) Slot.unset).toArray = ls at hl ⊢
  replace hl : lv_has ls 8 [(0, .ref q_j), (1, .int x1)] := hl
  unfold m_Mo_takeLength at hm
  refine lv_aload_n hx hb d_Mo_takeLength_0 rfl (lv_at hl 0 rfl) ?_
  refine tp_get (v := .int j_at) (C := R_Mo) (T := T_Mo) hx hb hts fw_Mo hown hw 0 rfl rfl 12 (by decide +kernel) (hts _ wd_405) rfl d_Mo_takeLength_1 ?_
  refine lv_istore_n (lv' := [(2, .int j_at), (0, .ref q_j), (1, .int x1)]) hx hb d_Mo_takeLength_4 rfl hl (by decide +kernel) rfl (fun ls hl => ?_)
  refine lv_lconst (v := (0 : Int64)) hx hb d_Mo_takeLength_5 (by decide +kernel) ?_
  refine lv_lstore_n (lv' := [(3, .long (0 : Int64)), (2, .int j_at), (0, .ref q_j), (1, .int x1)]) hx hb d_Mo_takeLength_6 rfl hl (by decide +kernel) rfl (fun ls hl => ?_)
  refine lv_iconst (v := (0 : Int32)) hx hb d_Mo_takeLength_7 (by decide +kernel) ?_
  refine lv_istore (lv' := [(5, .int (0 : Int32)), (3, .long (0 : Int64)), (2, .int j_at), (0, .ref q_j), (1, .int x1)]) hx hb d_Mo_takeLength_8 hl (by decide +kernel) rfl (fun ls hl => ?_)
  exact w_Mo_takeLength_10 hF2  N _ _ _ _ _ _ _ _ _ _ hm hw (lv_sub hl [3, 4, 2, 1, 0] rfl)
end
abbrev rm_Mo_fitting : Room := { frames := 1, cells := 0, slots := 0, locals := 22 }
abbrev ws_Mo_fitting : List Cond := .code y_Mo_fitting c_Mo_fitting 10 (some .boolean) :: tpG
noncomputable def m_Mo_fitting (x1 : Int32) (x2 : Int32) (x3 : Int64) (x5 : Int64) (x7 : Int64) (j_made : Int32) (j_fault : Int32) (j_fp : Int32) : Option (Int32 × Int32 × Int32) :=
  if j_fault = 0 then
    if (lg_cmp x3 (0 : Int64)) = 0 then
      tp_b3 (m_Mo_fails (4 : Int32) x1 j_fault j_fp) fun r3 j_fault_4 j_fp_5 =>
      tp_gd (decide (vp_nar .boolean r3 = r3)) <|
      some (r3, j_fault_4, j_fp_5)
    else
      if (lg_cmp x3 (Int32.toInt64 (j_made - x2))) ≤ 0 then
        if (lg_cmp ((Int32.toInt64 (j_made - x2)) + x5) x7) ≤ 0 then
          some ((1 : Int32), j_fault, j_fp)
        else
          tp_b3 (m_Mo_fails (5 : Int32) x1 j_fault j_fp) fun r10 j_fault_11 j_fp_12 =>
          if r10 = 0 then
            some ((0 : Int32), j_fault_11, j_fp_12)
          else
            some ((1 : Int32), j_fault_11, j_fp_12)
      else
        tp_b3 (m_Mo_fails (4 : Int32) x1 j_fault j_fp) fun r15 j_fault_16 j_fp_17 =>
        tp_gd (decide (vp_nar .boolean r15 = r15)) <|
        some (r15, j_fault_16, j_fp_17)
  else
    some ((0 : Int32), j_fault, j_fp)
section
variable {p : Program} {l : Launch} {e : Env} {s : State} {m : MethodId} {args : Array Value} {below : List Frame} {meth : Method} {c : Code} {A : Nat → Prop} {D : va_G} {cB cI : ClassId} {tM : Nat}
set_option maxHeartbeats 4000000 in
set_option maxRecDepth 100000 in
theorem ct_Mo_fitting {q_j q_ji q_jo q_jm q_jn q_jf : Nat} {j_in : Int32} {j_out : Int32} {j_made : Int32} {j_known : Int32} {j_fat : Int32} {j_flong : Int32} {j_told : Int32} {j_at : Int32} {j_end : Int32} {j_fault : Int32} {j_fp : Int32} {ji_f : Nat → Int32} {jo_f : Nat → Int32} {jm_f : Nat → Int32} {jn_f : Nat → Int32} {jf_f : Nat → Int32} {x1 : Int32} {x2 : Int32} {x3 : Int64} {x5 : Int64} {x7 : Int64} {r : Int32} {j_fault' : Int32} {j_fp' : Int32} (hm : m_Mo_fitting x1 x2 x3 x5 x7 j_made j_fault j_fp = some (r, j_fault', j_fp')) (sz : Nat) : tp_Ci l y_Mo_fitting ws_Mo_fitting rm_Mo_fitting D (tp_ty cB cI) tM [.ref q_j, .int x1, .int x2, .long x3, .long x5, .long x7] [(q_j, .inr (7, [.ref q_ji, .int j_in, .ref q_jo, .int j_out, .ref q_jm, .int j_made, .ref q_jn, .ref q_jf, .int j_known, .int j_fat, .int j_flong, .int j_told, .int j_at, .int j_end, .int j_fault, .int j_fp])), (q_ji, .inl (cB, 10000, .inl ji_f)), (q_jo, .inl (cB, 10000, .inl jo_f)), (q_jm, .inl (cB, 20000, .inl jm_f)), (q_jn, .inl (cI, 10001, .inl jn_f)), (q_jf, .inl (cI, 10001, .inl jf_f))] sz r [(q_j, .inr (7, [.ref q_ji, .int j_in, .ref q_jo, .int j_out, .ref q_jm, .int j_made, .ref q_jn, .ref q_jf, .int j_known, .int j_fat, .int j_flong, .int j_told, .int j_at, .int j_end, .int j_fault', .int j_fp'])), (q_ji, .inl (cB, 10000, .inl ji_f)), (q_jo, .inl (cB, 10000, .inl jo_f)), (q_jm, .inl (cB, 20000, .inl jm_f)), (q_jn, .inl (cI, 10001, .inl jn_f)), (q_jf, .inl (cI, 10001, .inl jf_f))] := by
  refine Met.ofW (cc := c_Mo_fitting) (maxL := 10) (ret := (some .boolean)) (by decide) rfl ?_
  intro p e s m args below meth c s₁ B hml hv
  obtain ⟨rfl, hv⟩ := hv
  have hw := tp_entry hv
  generalize va_A [(q_j, .inr (7, [.ref q_ji, .int j_in, .ref q_jo, .int j_out, .ref q_jm, .int j_made, .ref q_jn, .ref q_jf, .int j_known, .int j_fat, .int j_flong, .int j_told, .int j_at, .int j_end, .int j_fault, .int j_fp])), (q_ji, .inl (cB, 10000, .inl ji_f)), (q_jo, .inl (cB, 10000, .inl jo_f)), (q_jm, .inl (cB, 20000, .inl jm_f)), (q_jn, .inl (cI, 10001, .inl jn_f)), (q_jf, .inl (cI, 10001, .inl jf_f))] sz = A at hw ⊢
  have hx := B.exec
  have hb := B.bytes
  have hr := B.returns
  have hts0 := atoms_spec (ws := ws_Mo_fitting) B.pre
  have hts := fun w h => hts0 w (List.mem_cons_of_mem _ h)
  have hown : s.vm.findClass R_Mo = some m.cls := findClass_of_methodNamed B.named
  have hlocks := B.notSynchronized
  have hF : CallFix p m c c_Mo_fitting 10 s _ tpG R_Mo := ⟨hx, hb, hml, hown, hts⟩
  have hF2 : tp_F p m c c_Mo_fitting 10 s _ tpG R_Mo meth (some .boolean) := ⟨hF, hr, hlocks⟩
  have hl := lv_entry ([.ref q_j, .int x1, .int x2, .long x3, .long x5, .long x7]) (n := 10) (Nat.le_of_ble_eq_true rfl)
  rw [lg_entry_eq]
  generalize (lg_sl ([.ref q_j, .int x1, .int x2, .long x3, .long x5, .long x7]) ++ List.replicate (10 - (lg_sl ([.ref q_j, .int x1, .int x2, .long x3, .long x5, .long x7])).length) Slot.unset).toArray = ls at hl ⊢
  replace hl : lv_has ls 10 [(0, .ref q_j), (1, .int x1), (2, .int x2), (3, .long x3), (5, .long x5), (7, .long x7)] := hl
  unfold m_Mo_fitting at hm
  refine lv_aload_n hx hb d_Mo_fitting_0 rfl (lv_at hl 0 rfl) ?_
  refine tp_get (v := .int j_fault) (C := R_Mo) (T := T_Mo) hx hb hts fw_Mo hown hw 0 rfl rfl 14 (by decide +kernel) (hts _ wd_402) rfl d_Mo_fitting_1 ?_
  refine lv_if_eq (tgt := 9) hx hb d_Mo_fitting_4 (by decide +kernel) (fun hc1 => ?_) (fun hc1 => ?_)
  · replace hm := tp_it hc1 hm
    refine lv_aload_n hx hb d_Mo_fitting_9 rfl (lv_at hl 0 rfl) ?_
    refine tp_get (v := .int j_made) (C := R_Mo) (T := T_Mo) hx hb hts fw_Mo hown hw 0 rfl rfl 5 (by decide +kernel) (hts _ wd_337) rfl d_Mo_fitting_10 ?_
    refine lv_iload_n hx hb d_Mo_fitting_13 rfl (lv_at hl 2 rfl) ?_
    refine lv_isub hx hb d_Mo_fitting_14 ?_
    refine lv_istore (lv' := [(9, .int (j_made - x2)), (0, .ref q_j), (1, .int x1), (2, .int x2), (3, .long x3), (5, .long x5), (7, .long x7)]) hx hb d_Mo_fitting_15 hl (by decide +kernel) rfl (fun ls hl => ?_)
    refine lv_lload_n hx hb d_Mo_fitting_17 rfl (lv_at hl 4 rfl) ?_
    refine lv_lconst (v := (0 : Int64)) hx hb d_Mo_fitting_18 (by decide +kernel) ?_
    refine W.lcmp hx hb d_Mo_fitting_19 ?_
    refine lv_if_eq (tgt := 31) hx hb d_Mo_fitting_20 (by decide +kernel) (fun hc2 => ?_) (fun hc2 => ?_)
    · replace hm := tp_it hc2 hm
      refine lv_aload_n hx hb d_Mo_fitting_31 rfl (lv_at hl 1 rfl) ?_
      refine lv_iconst (v := (4 : Int32)) hx hb d_Mo_fitting_32 (by decide +kernel) ?_
      refine lv_iload_n hx hb d_Mo_fitting_33 rfl (lv_at hl 2 rfl) ?_
      obtain ⟨r3, j_fault_4, j_fp_5, hm6, hm⟩ := tp_b3_e hm
      refine tp_calli (wr := []) (WS' := [(q_j, .inr (7, [.ref q_ji, .int j_in, .ref q_jo, .int j_out, .ref q_jm, .int j_made, .ref q_jn, .ref q_jf, .int j_known, .int j_fat, .int j_flong, .int j_told, .int j_at, .int j_end, .int j_fault_4, .int j_fp_5])), (q_ji, .inl (cB, 10000, .inl ji_f)), (q_jo, .inl (cB, 10000, .inl jo_f)), (q_jm, .inl (cB, 20000, .inl jm_f)), (q_jn, .inl (cI, 10001, .inl jn_f)), (q_jf, .inl (cI, 10001, .inl jf_f))]) (va_runV (As := [.int (4 : Int32), .int x1]) (rest := []) hF (ct_Mo_fails (l := l) (D := D) (cB := cB) (cI := cI) (tM := tM) (q_j := q_j) (q_ji := q_ji) (q_jo := q_jo) (q_jm := q_jm) (q_jn := q_jn) (q_jf := q_jf) (j_in := j_in) (j_out := j_out) (j_made := j_made) (j_known := j_known) (j_fat := j_fat) (j_flong := j_flong) (j_told := j_told) (j_at := j_at) (j_end := j_end) (j_fault := j_fault) (j_fp := j_fp) (ji_f := ji_f) (jo_f := jo_f) (jm_f := jm_f) (jn_f := jn_f) (jf_f := jf_f) (x1 := (4 : Int32)) (x2 := x1) (r := r3) (j_fault' := j_fault_4) (j_fp' := j_fp_5) hm6 _) (cwV 2 hts (tpG_V wd_409 wd_410 wd_411 wd_340 wd_408) rfl rfl rfl ⟨rfl, yd_Mo_fails⟩ ⟨Nat.le_of_ble_eq_true rfl, Nat.le_of_ble_eq_true rfl⟩) ⟨tp_blind, va_recv hw.1 hw.2.1 (ci := 7) (q0 := 0) rfl rfl, tp_pre hw [0, 1, 2, 3, 4, 5] rfl rfl⟩ rfl rfl hl.1 rfl (lv_room (Nat.le_of_ble_eq_true rfl)) d_Mo_fitting_34 ⟨Nat.le_of_ble_eq_true rfl, Nat.le_of_ble_eq_true rfl⟩) hw [0, 1, 2, 3, 4, 5] [] [0, 1, 2, 3, 4, 5] rfl rfl rfl (by decide) rfl rfl (fun H locs hw => ?_)
      obtain ⟨hn7, hm⟩ := tp_gd_e hm
      obtain ⟨rfl, rfl, rfl⟩ := tp_inj3 hm
      exact tp_zret hx hb hr hlocks (tp_narZ (of_decide_eq_true hn7)) hw d_Mo_fitting_37
    · replace hm := tp_if hc2 hm
      refine lv_lload_n hx hb d_Mo_fitting_23 rfl (lv_at hl 4 rfl) ?_
      refine lv_iload hx hb d_Mo_fitting_24 (lv_at hl 0 rfl) ?_
      refine lv_i2l (v := (Int32.toInt64 (j_made - x2))) hx hb d_Mo_fitting_26 rfl ?_
      refine W.lcmp hx hb d_Mo_fitting_27 ?_
      refine lv_if_le (tgt := 38) hx hb d_Mo_fitting_28 (by decide +kernel) (fun hc8 => ?_) (fun hc8 => ?_)
      · replace hm := tp_it hc8 hm
        refine lv_iload hx hb d_Mo_fitting_38 (lv_at hl 0 rfl) ?_
        refine lv_i2l (v := (Int32.toInt64 (j_made - x2))) hx hb d_Mo_fitting_40 rfl ?_
        refine lv_lload hx hb d_Mo_fitting_41 (lv_at hl 5 rfl) ?_
        refine lv_ladd hx hb d_Mo_fitting_43 ?_
        refine lv_lload hx hb d_Mo_fitting_44 (lv_at hl 6 rfl) ?_
        refine W.lcmp hx hb d_Mo_fitting_46 ?_
        refine lv_if_le (tgt := 59) hx hb d_Mo_fitting_47 (by decide +kernel) (fun hc9 => ?_) (fun hc9 => ?_)
        · replace hm := tp_it hc9 hm
          refine lv_iconst (v := (1 : Int32)) hx hb d_Mo_fitting_59 (by decide +kernel) ?_
          refine lv_goto (tgt := 64) hx hb d_Mo_fitting_60 (by decide +kernel) ?_
          obtain ⟨rfl, rfl, rfl⟩ := tp_inj3 hm
          exact tp_zret hx hb hr hlocks rfl hw d_Mo_fitting_64
        · replace hm := tp_if hc9 hm
          refine lv_aload_n hx hb d_Mo_fitting_50 rfl (lv_at hl 1 rfl) ?_
          refine lv_iconst (v := (5 : Int32)) hx hb d_Mo_fitting_51 (by decide +kernel) ?_
          refine lv_iload_n hx hb d_Mo_fitting_52 rfl (lv_at hl 2 rfl) ?_
          obtain ⟨r10, j_fault_11, j_fp_12, hm13, hm⟩ := tp_b3_e hm
          refine tp_calli (wr := []) (WS' := [(q_j, .inr (7, [.ref q_ji, .int j_in, .ref q_jo, .int j_out, .ref q_jm, .int j_made, .ref q_jn, .ref q_jf, .int j_known, .int j_fat, .int j_flong, .int j_told, .int j_at, .int j_end, .int j_fault_11, .int j_fp_12])), (q_ji, .inl (cB, 10000, .inl ji_f)), (q_jo, .inl (cB, 10000, .inl jo_f)), (q_jm, .inl (cB, 20000, .inl jm_f)), (q_jn, .inl (cI, 10001, .inl jn_f)), (q_jf, .inl (cI, 10001, .inl jf_f))]) (va_runV (As := [.int (5 : Int32), .int x1]) (rest := []) hF (ct_Mo_fails (l := l) (D := D) (cB := cB) (cI := cI) (tM := tM) (q_j := q_j) (q_ji := q_ji) (q_jo := q_jo) (q_jm := q_jm) (q_jn := q_jn) (q_jf := q_jf) (j_in := j_in) (j_out := j_out) (j_made := j_made) (j_known := j_known) (j_fat := j_fat) (j_flong := j_flong) (j_told := j_told) (j_at := j_at) (j_end := j_end) (j_fault := j_fault) (j_fp := j_fp) (ji_f := ji_f) (jo_f := jo_f) (jm_f := jm_f) (jn_f := jn_f) (jf_f := jf_f) (x1 := (5 : Int32)) (x2 := x1) (r := r10) (j_fault' := j_fault_11) (j_fp' := j_fp_12) hm13 _) (cwV 2 hts (tpG_V wd_409 wd_410 wd_411 wd_340 wd_408) rfl rfl rfl ⟨rfl, yd_Mo_fails⟩ ⟨Nat.le_of_ble_eq_true rfl, Nat.le_of_ble_eq_true rfl⟩) ⟨tp_blind, va_recv hw.1 hw.2.1 (ci := 7) (q0 := 0) rfl rfl, tp_pre hw [0, 1, 2, 3, 4, 5] rfl rfl⟩ rfl rfl hl.1 rfl (lv_room (Nat.le_of_ble_eq_true rfl)) d_Mo_fitting_53 ⟨Nat.le_of_ble_eq_true rfl, Nat.le_of_ble_eq_true rfl⟩) hw [0, 1, 2, 3, 4, 5] [] [0, 1, 2, 3, 4, 5] rfl rfl rfl (by decide) rfl rfl (fun H locs hw => ?_)
          refine lv_if_eq (tgt := 63) hx hb d_Mo_fitting_56 (by decide +kernel) (fun hc14 => ?_) (fun hc14 => ?_)
          · replace hm := tp_it hc14 hm
            refine lv_iconst (v := (0 : Int32)) hx hb d_Mo_fitting_63 (by decide +kernel) ?_
            obtain ⟨rfl, rfl, rfl⟩ := tp_inj3 hm
            exact tp_zret hx hb hr hlocks rfl hw d_Mo_fitting_64
          · replace hm := tp_if hc14 hm
            refine lv_iconst (v := (1 : Int32)) hx hb d_Mo_fitting_59 (by decide +kernel) ?_
            refine lv_goto (tgt := 64) hx hb d_Mo_fitting_60 (by decide +kernel) ?_
            obtain ⟨rfl, rfl, rfl⟩ := tp_inj3 hm
            exact tp_zret hx hb hr hlocks rfl hw d_Mo_fitting_64
      · replace hm := tp_if hc8 hm
        refine lv_aload_n hx hb d_Mo_fitting_31 rfl (lv_at hl 1 rfl) ?_
        refine lv_iconst (v := (4 : Int32)) hx hb d_Mo_fitting_32 (by decide +kernel) ?_
        refine lv_iload_n hx hb d_Mo_fitting_33 rfl (lv_at hl 2 rfl) ?_
        obtain ⟨r15, j_fault_16, j_fp_17, hm18, hm⟩ := tp_b3_e hm
        refine tp_calli (wr := []) (WS' := [(q_j, .inr (7, [.ref q_ji, .int j_in, .ref q_jo, .int j_out, .ref q_jm, .int j_made, .ref q_jn, .ref q_jf, .int j_known, .int j_fat, .int j_flong, .int j_told, .int j_at, .int j_end, .int j_fault_16, .int j_fp_17])), (q_ji, .inl (cB, 10000, .inl ji_f)), (q_jo, .inl (cB, 10000, .inl jo_f)), (q_jm, .inl (cB, 20000, .inl jm_f)), (q_jn, .inl (cI, 10001, .inl jn_f)), (q_jf, .inl (cI, 10001, .inl jf_f))]) (va_runV (As := [.int (4 : Int32), .int x1]) (rest := []) hF (ct_Mo_fails (l := l) (D := D) (cB := cB) (cI := cI) (tM := tM) (q_j := q_j) (q_ji := q_ji) (q_jo := q_jo) (q_jm := q_jm) (q_jn := q_jn) (q_jf := q_jf) (j_in := j_in) (j_out := j_out) (j_made := j_made) (j_known := j_known) (j_fat := j_fat) (j_flong := j_flong) (j_told := j_told) (j_at := j_at) (j_end := j_end) (j_fault := j_fault) (j_fp := j_fp) (ji_f := ji_f) (jo_f := jo_f) (jm_f := jm_f) (jn_f := jn_f) (jf_f := jf_f) (x1 := (4 : Int32)) (x2 := x1) (r := r15) (j_fault' := j_fault_16) (j_fp' := j_fp_17) hm18 _) (cwV 2 hts (tpG_V wd_409 wd_410 wd_411 wd_340 wd_408) rfl rfl rfl ⟨rfl, yd_Mo_fails⟩ ⟨Nat.le_of_ble_eq_true rfl, Nat.le_of_ble_eq_true rfl⟩) ⟨tp_blind, va_recv hw.1 hw.2.1 (ci := 7) (q0 := 0) rfl rfl, tp_pre hw [0, 1, 2, 3, 4, 5] rfl rfl⟩ rfl rfl hl.1 rfl (lv_room (Nat.le_of_ble_eq_true rfl)) d_Mo_fitting_34 ⟨Nat.le_of_ble_eq_true rfl, Nat.le_of_ble_eq_true rfl⟩) hw [0, 1, 2, 3, 4, 5] [] [0, 1, 2, 3, 4, 5] rfl rfl rfl (by decide) rfl rfl (fun H locs hw => ?_)
        obtain ⟨hn19, hm⟩ := tp_gd_e hm
        obtain ⟨rfl, rfl, rfl⟩ := tp_inj3 hm
        exact tp_zret hx hb hr hlocks (tp_narZ (of_decide_eq_true hn19)) hw d_Mo_fitting_37
  · replace hm := tp_if hc1 hm
    refine lv_iconst (v := (0 : Int32)) hx hb d_Mo_fitting_7 (by decide +kernel) ?_
    obtain ⟨rfl, rfl, rfl⟩ := tp_inj3 hm
    exact tp_zret hx hb hr hlocks rfl hw d_Mo_fitting_8
end
abbrev rm_Mo_literals : Room := { frames := 2, cells := 0, slots := 0, locals := 46 }
abbrev ws_Mo_literals : List Cond := .code y_Mo_literals c_Mo_literals 12 none :: tpG
noncomputable def m_Mo_literals_60 (N : Nat) (j_end : Int32) (ji_f : Nat → Int32) (rec60 : Int64 → Int64 → Int32 → Int32 → Int32 → Int32 → (Nat → Int32) → Option (Int32 × Int32 × Int32 × Int32 × (Nat → Int32))) (x6 : Int64) (x8 : Int64) (j_made : Int32) (j_at : Int32) (j_fault : Int32) (j_fp : Int32) (jm_f : Nat → Int32) : Option (Int32 × Int32 × Int32 × Int32 × (Nat → Int32)) :=
  if 0 ≤ (lg_cmp x8 x6) then
    some (j_made, j_at, j_fault, j_fp, jm_f)
  else
    if j_fault = 0 then
      tp_b4 (m_Mo_take N (1 : Int32) j_at j_end j_fault j_fp ji_f) fun r15 j_at_16 j_fault_17 j_fp_18 =>
      if (lg_cmp r15 (0 : Int64)) < 0 then
        rec60 x6 (x8 + (1 : Int64)) j_made j_at_16 j_fault_17 j_fp_18 jm_f
      else
        tp_b2 (m_Mo_put (Int64.toInt32 r15) j_made jm_f) fun j_made_21 jm_f_22 =>
        rec60 x6 (x8 + (1 : Int64)) j_made_21 j_at_16 j_fault_17 j_fp_18 jm_f_22
    else
      some (j_made, j_at, j_fault, j_fp, jm_f)
noncomputable def m_Mo_literals_23 (N : Nat) (j_end : Int32) (ji_f : Nat → Int32) (x1 : Int32) (x2 : Int32) (x4 : Int64) (k0 : Int64) (j_made : Int32) (j_at : Int32) (j_fault : Int32) (j_fp : Int32) (jm_f : Nat → Int32) : Option (Int32 × Int32 × Int32 × Int32 × (Nat → Int32)) :=
  if j_fault = 0 then
    if (lg_cmp ((Int32.toInt64 (j_made - x2)) + k0) x4) ≤ 0 then
      tp_it7 (m_Mo_literals_60 N j_end ji_f ) N k0 (0 : Int64) j_made j_at j_fault j_fp jm_f
    else
      tp_b3 (m_Mo_fails (5 : Int32) x1 j_fault j_fp) fun r9 j_fault_10 j_fp_11 =>
      some (j_made, j_at, j_fault_10, j_fp_11, jm_f)
  else
    some (j_made, j_at, j_fault, j_fp, jm_f)
noncomputable def m_Mo_literals (N : Nat) (x1 : Int32) (x2 : Int32) (x3 : Int32) (x4 : Int64) (j_made : Int32) (j_at : Int32) (j_end : Int32) (j_fault : Int32) (j_fp : Int32) (ji_f : Nat → Int32) (jm_f : Nat → Int32) : Option (Int32 × Int32 × Int32 × Int32 × (Nat → Int32)) :=
  if (60 : Int32) ≤ x3 then
    tp_b4 (m_Mo_take N (x3 - (59 : Int32)) j_at j_end j_fault j_fp ji_f) fun r2 j_at_3 j_fault_4 j_fp_5 =>
    m_Mo_literals_23 N j_end ji_f  x1 x2 x4 (r2 + (1 : Int64)) j_made j_at_3 j_fault_4 j_fp_5 jm_f
  else
    m_Mo_literals_23 N j_end ji_f  x1 x2 x4 ((Int32.toInt64 x3) + (1 : Int64)) j_made j_at j_fault j_fp jm_f
section
variable {p : Program} {l : Launch} {e : Env} {s : State} {m : MethodId} {args : Array Value} {below : List Frame} {meth : Method} {c : Code} {A : Nat → Prop} {D : va_G} {cB cI : ClassId} {tM : Nat}
set_option maxHeartbeats 4000000 in
set_option maxRecDepth 100000 in
theorem w_Mo_literals_60 {q_j q_ji q_jo q_jm q_jn q_jf : Nat} {j_in : Int32} {j_out : Int32} {j_known : Int32} {j_fat : Int32} {j_flong : Int32} {j_told : Int32} {j_end : Int32} {ji_f : Nat → Int32} {jo_f : Nat → Int32} {jn_f : Nat → Int32} {jf_f : Nat → Int32} {N : Nat} {j_made' : Int32} {j_at' : Int32} {j_fault' : Int32} {j_fp' : Int32} {jm_f' : Nat → Int32} (hF2 : tp_F p m c c_Mo_literals 12 s args tpG R_Mo meth none) : ∀ (n : Nat), ∀ (x6 : Int64) (x8 : Int64) (j_made : Int32) (j_at : Int32) (j_fault : Int32) (j_fp : Int32) (jm_f : Nat → Int32) (H : Heap) (locs : List Loc) (ls : Array Slot), tp_it7 (m_Mo_literals_60 N j_end ji_f ) n x6 x8 j_made j_at j_fault j_fp jm_f = some (j_made', j_at', j_fault', j_fp', jm_f') → tp_Wd D (tp_ty cB cI) tM A s H locs [(q_j, .inr (7, [.ref q_ji, .int j_in, .ref q_jo, .int j_out, .ref q_jm, .int j_made, .ref q_jn, .ref q_jf, .int j_known, .int j_fat, .int j_flong, .int j_told, .int j_at, .int j_end, .int j_fault, .int j_fp])), (q_ji, .inl (cB, 10000, .inl ji_f)), (q_jo, .inl (cB, 10000, .inl jo_f)), (q_jm, .inl (cB, 20000, .inl jm_f)), (q_jn, .inl (cI, 10001, .inl jn_f)), (q_jf, .inl (cI, 10001, .inl jf_f))] → lv_has ls 12 [(0, .ref q_j), (6, .long x6), (8, .long x8)] → W p l e rm_Mo_literals s m args below meth c H locs 0 0 (MQ below (tp_Qv (S := Unit) D A (fun _ => [(q_j, .inr (7, [.ref q_ji, .int j_in, .ref q_jo, .int j_out, .ref q_jm, .int j_made', .ref q_jn, .ref q_jf, .int j_known, .int j_fat, .int j_flong, .int j_told, .int j_at', .int j_end, .int j_fault', .int j_fp'])), (q_ji, .inl (cB, 10000, .inl ji_f)), (q_jo, .inl (cB, 10000, .inl jo_f)), (q_jm, .inl (cB, 20000, .inl jm_f')), (q_jn, .inl (cI, 10001, .inl jn_f)), (q_jf, .inl (cI, 10001, .inl jf_f))])) args s 0 0 A) (F0 m 60 ls []) := by
  obtain ⟨hF, hr, hlocks⟩ := id hF2
  obtain ⟨hx, hb, hml, hown, hts⟩ := id hF
  intro n
  induction n with
  | zero => intro x6 x8 j_made j_at j_fault j_fp jm_f H locs ls hm; exact absurd hm (by simp [tp_it7])
  | succ n ih60 =>
    intro x6 x8 j_made j_at j_fault j_fp jm_f H locs ls hm hw hl
    replace hm : m_Mo_literals_60 N j_end ji_f  (tp_it7 (m_Mo_literals_60 N j_end ji_f ) n) x6 x8 j_made j_at j_fault j_fp jm_f = some (j_made', j_at', j_fault', j_fp', jm_f') := hm
    unfold m_Mo_literals_60 at hm
    refine lv_lload hx hb d_Mo_literals_60 (lv_at hl 2 rfl) ?_
    refine lv_lload hx hb d_Mo_literals_62 (lv_at hl 1 rfl) ?_
    refine W.lcmp hx hb d_Mo_literals_64 ?_
    refine lv_if_ge (tgt := 105) hx hb d_Mo_literals_65 (by decide +kernel) (fun hc13 => ?_) (fun hc13 => ?_)
    · replace hm := tp_it hc13 hm
      obtain ⟨rfl, rfl, rfl, rfl, rfl⟩ := tp_inj5 hm
      exact tp_vret () hx hb hr hlocks hw d_Mo_literals_105
    · replace hm := tp_if hc13 hm
      refine lv_aload_n hx hb d_Mo_literals_68 rfl (lv_at hl 0 rfl) ?_
      refine tp_get (v := .int j_fault) (C := R_Mo) (T := T_Mo) hx hb hts fw_Mo hown hw 0 rfl rfl 14 (by decide +kernel) (hts _ wd_402) rfl d_Mo_literals_69 ?_
      refine lv_if_ne (tgt := 105) hx hb d_Mo_literals_72 (by decide +kernel) (fun hc14 => ?_) (fun hc14 => ?_)
      · replace hm := tp_if hc14 hm
        obtain ⟨rfl, rfl, rfl, rfl, rfl⟩ := tp_inj5 hm
        exact tp_vret () hx hb hr hlocks hw d_Mo_literals_105
      · replace hm := tp_it hc14 hm
        refine lv_aload_n hx hb d_Mo_literals_75 rfl (lv_at hl 0 rfl) ?_
        refine lv_iconst (v := (1 : Int32)) hx hb d_Mo_literals_76 (by decide +kernel) ?_
        obtain ⟨r15, j_at_16, j_fault_17, j_fp_18, hm19, hm⟩ := tp_b4_e hm
        refine tp_calll (wr := []) (WS' := [(q_j, .inr (7, [.ref q_ji, .int j_in, .ref q_jo, .int j_out, .ref q_jm, .int j_made, .ref q_jn, .ref q_jf, .int j_known, .int j_fat, .int j_flong, .int j_told, .int j_at_16, .int j_end, .int j_fault_17, .int j_fp_18])), (q_ji, .inl (cB, 10000, .inl ji_f)), (q_jo, .inl (cB, 10000, .inl jo_f)), (q_jm, .inl (cB, 20000, .inl jm_f)), (q_jn, .inl (cI, 10001, .inl jn_f)), (q_jf, .inl (cI, 10001, .inl jf_f))]) (va_runV (As := [.int (1 : Int32)]) (rest := []) hF (ct_Mo_take (l := l) (D := D) (cB := cB) (cI := cI) (tM := tM) (q_j := q_j) (q_ji := q_ji) (q_jo := q_jo) (q_jm := q_jm) (q_jn := q_jn) (q_jf := q_jf) (j_in := j_in) (j_out := j_out) (j_made := j_made) (j_known := j_known) (j_fat := j_fat) (j_flong := j_flong) (j_told := j_told) (j_at := j_at) (j_end := j_end) (j_fault := j_fault) (j_fp := j_fp) (ji_f := ji_f) (jo_f := jo_f) (jm_f := jm_f) (jn_f := jn_f) (jf_f := jf_f) (x1 := (1 : Int32)) (N := N) (r := r15) (j_at' := j_at_16) (j_fault' := j_fault_17) (j_fp' := j_fp_18) hm19 _) (cwV 1 hts (tpG_V wd_413 wd_414 wd_415 wd_340 wd_412) rfl rfl rfl ⟨rfl, yd_Mo_take⟩ ⟨Nat.le_of_ble_eq_true rfl, Nat.le_of_ble_eq_true rfl⟩) ⟨tp_blind, va_recv hw.1 hw.2.1 (ci := 7) (q0 := 0) rfl rfl, tp_pre hw [0, 1, 2, 3, 4, 5] rfl rfl⟩ rfl rfl hl.1 rfl (lv_room (Nat.le_of_ble_eq_true rfl)) d_Mo_literals_77 ⟨Nat.le_of_ble_eq_true rfl, Nat.le_of_ble_eq_true rfl⟩) hw [0, 1, 2, 3, 4, 5] [] [0, 1, 2, 3, 4, 5] rfl rfl rfl (by decide) rfl rfl (fun H locs hw => ?_)
        refine lv_lstore (lv' := [(10, .long r15), (0, .ref q_j), (6, .long x6), (8, .long x8)]) hx hb d_Mo_literals_80 hl (by decide +kernel) rfl (fun ls hl => ?_)
        refine lv_lload hx hb d_Mo_literals_82 (lv_at hl 0 rfl) ?_
        refine lv_lconst (v := (0 : Int64)) hx hb d_Mo_literals_84 (by decide +kernel) ?_
        refine W.lcmp hx hb d_Mo_literals_85 ?_
        refine lv_if_lt (tgt := 96) hx hb d_Mo_literals_86 (by decide +kernel) (fun hc20 => ?_) (fun hc20 => ?_)
        · replace hm := tp_it hc20 hm
          refine lv_lload hx hb d_Mo_literals_96 (lv_at hl 3 rfl) ?_
          refine lv_lconst (v := (1 : Int64)) hx hb d_Mo_literals_98 (by decide +kernel) ?_
          refine lv_ladd hx hb d_Mo_literals_99 ?_
          refine lv_lstore (lv' := [(8, .long (x8 + (1 : Int64))), (10, .long r15), (0, .ref q_j), (6, .long x6)]) hx hb d_Mo_literals_100 hl (by decide +kernel) rfl (fun ls hl => ?_)
          refine lv_goto (tgt := 60) hx hb d_Mo_literals_102 (by decide +kernel) ?_
          exact ih60 _ _ _ _ _ _ _ _ _ _ hm hw (lv_sub hl [2, 3, 0] rfl)
        · replace hm := tp_if hc20 hm
          refine lv_aload_n hx hb d_Mo_literals_89 rfl (lv_at hl 1 rfl) ?_
          refine lv_lload hx hb d_Mo_literals_90 (lv_at hl 0 rfl) ?_
          refine lv_l2i (v := (Int64.toInt32 r15)) hx hb d_Mo_literals_92 rfl ?_
          obtain ⟨j_made_21, jm_f_22, hm23, hm⟩ := tp_b2_e hm
          refine tp_callv (wr := []) (WS' := [(q_j, .inr (7, [.ref q_ji, .int j_in, .ref q_jo, .int j_out, .ref q_jm, .int j_made_21, .ref q_jn, .ref q_jf, .int j_known, .int j_fat, .int j_flong, .int j_told, .int j_at_16, .int j_end, .int j_fault_17, .int j_fp_18])), (q_ji, .inl (cB, 10000, .inl ji_f)), (q_jo, .inl (cB, 10000, .inl jo_f)), (q_jm, .inl (cB, 20000, .inl jm_f_22)), (q_jn, .inl (cI, 10001, .inl jn_f)), (q_jf, .inl (cI, 10001, .inl jf_f))]) (va_runV (As := [.int (Int64.toInt32 r15)]) (rest := []) hF (ct_Mo_put (l := l) (D := D) (cB := cB) (cI := cI) (tM := tM) (q_j := q_j) (q_ji := q_ji) (q_jo := q_jo) (q_jm := q_jm) (q_jn := q_jn) (q_jf := q_jf) (j_in := j_in) (j_out := j_out) (j_made := j_made) (j_known := j_known) (j_fat := j_fat) (j_flong := j_flong) (j_told := j_told) (j_at := j_at_16) (j_end := j_end) (j_fault := j_fault_17) (j_fp := j_fp_18) (ji_f := ji_f) (jo_f := jo_f) (jm_f := jm_f) (jn_f := jn_f) (jf_f := jf_f) (x1 := (Int64.toInt32 r15)) (j_made' := j_made_21) (jm_f' := jm_f_22) hm23 _) (cwV 1 hts (tpG_V wd_341 wd_342 wd_343 wd_340 wd_339) rfl rfl rfl ⟨rfl, yd_Mo_put⟩ ⟨Nat.le_of_ble_eq_true rfl, Nat.le_of_ble_eq_true rfl⟩) ⟨tp_blind, va_recv hw.1 hw.2.1 (ci := 7) (q0 := 0) rfl rfl, tp_pre hw [0, 1, 2, 3, 4, 5] rfl rfl⟩ rfl rfl hl.1 rfl (lv_room (Nat.le_of_ble_eq_true rfl)) d_Mo_literals_93 ⟨Nat.le_of_ble_eq_true rfl, Nat.le_of_ble_eq_true rfl⟩) hw [0, 1, 2, 3, 4, 5] [] [0, 1, 2, 3, 4, 5] rfl rfl rfl (by decide) rfl rfl (fun H locs hw => ?_)
          refine lv_lload hx hb d_Mo_literals_96 (lv_at hl 3 rfl) ?_
          refine lv_lconst (v := (1 : Int64)) hx hb d_Mo_literals_98 (by decide +kernel) ?_
          refine lv_ladd hx hb d_Mo_literals_99 ?_
          refine lv_lstore (lv' := [(8, .long (x8 + (1 : Int64))), (10, .long r15), (0, .ref q_j), (6, .long x6)]) hx hb d_Mo_literals_100 hl (by decide +kernel) rfl (fun ls hl => ?_)
          refine lv_goto (tgt := 60) hx hb d_Mo_literals_102 (by decide +kernel) ?_
          exact ih60 _ _ _ _ _ _ _ _ _ _ hm hw (lv_sub hl [2, 3, 0] rfl)
set_option maxHeartbeats 4000000 in
set_option maxRecDepth 100000 in
theorem w_Mo_literals_23 {q_j q_ji q_jo q_jm q_jn q_jf : Nat} {j_in : Int32} {j_out : Int32} {j_known : Int32} {j_fat : Int32} {j_flong : Int32} {j_told : Int32} {j_end : Int32} {ji_f : Nat → Int32} {jo_f : Nat → Int32} {jn_f : Nat → Int32} {jf_f : Nat → Int32} {N : Nat} {j_made' : Int32} {j_at' : Int32} {j_fault' : Int32} {j_fp' : Int32} {jm_f' : Nat → Int32} (hF2 : tp_F p m c c_Mo_literals 12 s args tpG R_Mo meth none) : ∀ (x1 : Int32) (x2 : Int32) (x4 : Int64) (k0 : Int64) (j_made : Int32) (j_at : Int32) (j_fault : Int32) (j_fp : Int32) (jm_f : Nat → Int32) (H : Heap) (locs : List Loc) (ls : Array Slot), m_Mo_literals_23 N j_end ji_f  x1 x2 x4 k0 j_made j_at j_fault j_fp jm_f = some (j_made', j_at', j_fault', j_fp', jm_f') → tp_Wd D (tp_ty cB cI) tM A s H locs [(q_j, .inr (7, [.ref q_ji, .int j_in, .ref q_jo, .int j_out, .ref q_jm, .int j_made, .ref q_jn, .ref q_jf, .int j_known, .int j_fat, .int j_flong, .int j_told, .int j_at, .int j_end, .int j_fault, .int j_fp])), (q_ji, .inl (cB, 10000, .inl ji_f)), (q_jo, .inl (cB, 10000, .inl jo_f)), (q_jm, .inl (cB, 20000, .inl jm_f)), (q_jn, .inl (cI, 10001, .inl jn_f)), (q_jf, .inl (cI, 10001, .inl jf_f))] → lv_has ls 12 [(0, .ref q_j), (1, .int x1), (2, .int x2), (4, .long x4)] → W p l e rm_Mo_literals s m args below meth c H locs 0 0 (MQ below (tp_Qv (S := Unit) D A (fun _ => [(q_j, .inr (7, [.ref q_ji, .int j_in, .ref q_jo, .int j_out, .ref q_jm, .int j_made', .ref q_jn, .ref q_jf, .int j_known, .int j_fat, .int j_flong, .int j_told, .int j_at', .int j_end, .int j_fault', .int j_fp'])), (q_ji, .inl (cB, 10000, .inl ji_f)), (q_jo, .inl (cB, 10000, .inl jo_f)), (q_jm, .inl (cB, 20000, .inl jm_f')), (q_jn, .inl (cI, 10001, .inl jn_f)), (q_jf, .inl (cI, 10001, .inl jf_f))])) args s 0 0 A) (F0 m 23 ls [.long k0]) := by
  obtain ⟨hF, hr, hlocks⟩ := id hF2
  obtain ⟨hx, hb, hml, hown, hts⟩ := id hF
  intro x1 x2 x4 k0 j_made j_at j_fault j_fp jm_f H locs ls hm hw hl
  unfold m_Mo_literals_23 at hm
  refine lv_lstore (lv' := [(6, .long k0), (0, .ref q_j), (1, .int x1), (2, .int x2), (4, .long x4)]) hx hb d_Mo_literals_23 hl (by decide +kernel) rfl (fun ls hl => ?_)
  refine lv_aload_n hx hb d_Mo_literals_25 rfl (lv_at hl 1 rfl) ?_
  refine tp_get (v := .int j_fault) (C := R_Mo) (T := T_Mo) hx hb hts fw_Mo hown hw 0 rfl rfl 14 (by decide +kernel) (hts _ wd_402) rfl d_Mo_literals_26 ?_
  refine lv_if_eq (tgt := 33) hx hb d_Mo_literals_29 (by decide +kernel) (fun hc7 => ?_) (fun hc7 => ?_)
  · replace hm := tp_it hc7 hm
    refine lv_aload_n hx hb d_Mo_literals_33 rfl (lv_at hl 1 rfl) ?_
    refine tp_get (v := .int j_made) (C := R_Mo) (T := T_Mo) hx hb hts fw_Mo hown hw 0 rfl rfl 5 (by decide +kernel) (hts _ wd_337) rfl d_Mo_literals_34 ?_
    refine lv_iload_n hx hb d_Mo_literals_37 rfl (lv_at hl 3 rfl) ?_
    refine lv_isub hx hb d_Mo_literals_38 ?_
    refine lv_i2l (v := (Int32.toInt64 (j_made - x2))) hx hb d_Mo_literals_39 rfl ?_
    refine lv_lload hx hb d_Mo_literals_40 (lv_at hl 0 rfl) ?_
    refine lv_ladd hx hb d_Mo_literals_42 ?_
    refine lv_lload hx hb d_Mo_literals_43 (lv_at hl 4 rfl) ?_
    refine W.lcmp hx hb d_Mo_literals_45 ?_
    refine lv_if_le (tgt := 57) hx hb d_Mo_literals_46 (by decide +kernel) (fun hc8 => ?_) (fun hc8 => ?_)
    · replace hm := tp_it hc8 hm
      refine lv_lconst (v := (0 : Int64)) hx hb d_Mo_literals_57 (by decide +kernel) ?_
      refine lv_lstore (lv' := [(8, .long (0 : Int64)), (6, .long k0), (0, .ref q_j), (1, .int x1), (2, .int x2), (4, .long x4)]) hx hb d_Mo_literals_58 hl (by decide +kernel) rfl (fun ls hl => ?_)
      exact w_Mo_literals_60 hF2  N _ _ _ _ _ _ _ _ _ _ hm hw (lv_sub hl [2, 1, 0] rfl)
    · replace hm := tp_if hc8 hm
      refine lv_aload_n hx hb d_Mo_literals_49 rfl (lv_at hl 1 rfl) ?_
      refine lv_iconst (v := (5 : Int32)) hx hb d_Mo_literals_50 (by decide +kernel) ?_
      refine lv_iload_n hx hb d_Mo_literals_51 rfl (lv_at hl 2 rfl) ?_
      obtain ⟨r9, j_fault_10, j_fp_11, hm12, hm⟩ := tp_b3_e hm
      refine tp_calli (wr := []) (WS' := [(q_j, .inr (7, [.ref q_ji, .int j_in, .ref q_jo, .int j_out, .ref q_jm, .int j_made, .ref q_jn, .ref q_jf, .int j_known, .int j_fat, .int j_flong, .int j_told, .int j_at, .int j_end, .int j_fault_10, .int j_fp_11])), (q_ji, .inl (cB, 10000, .inl ji_f)), (q_jo, .inl (cB, 10000, .inl jo_f)), (q_jm, .inl (cB, 20000, .inl jm_f)), (q_jn, .inl (cI, 10001, .inl jn_f)), (q_jf, .inl (cI, 10001, .inl jf_f))]) (va_runV (As := [.int (5 : Int32), .int x1]) (rest := []) hF (ct_Mo_fails (l := l) (D := D) (cB := cB) (cI := cI) (tM := tM) (q_j := q_j) (q_ji := q_ji) (q_jo := q_jo) (q_jm := q_jm) (q_jn := q_jn) (q_jf := q_jf) (j_in := j_in) (j_out := j_out) (j_made := j_made) (j_known := j_known) (j_fat := j_fat) (j_flong := j_flong) (j_told := j_told) (j_at := j_at) (j_end := j_end) (j_fault := j_fault) (j_fp := j_fp) (ji_f := ji_f) (jo_f := jo_f) (jm_f := jm_f) (jn_f := jn_f) (jf_f := jf_f) (x1 := (5 : Int32)) (x2 := x1) (r := r9) (j_fault' := j_fault_10) (j_fp' := j_fp_11) hm12 _) (cwV 2 hts (tpG_V wd_409 wd_410 wd_411 wd_340 wd_408) rfl rfl rfl ⟨rfl, yd_Mo_fails⟩ ⟨Nat.le_of_ble_eq_true rfl, Nat.le_of_ble_eq_true rfl⟩) ⟨tp_blind, va_recv hw.1 hw.2.1 (ci := 7) (q0 := 0) rfl rfl, tp_pre hw [0, 1, 2, 3, 4, 5] rfl rfl⟩ rfl rfl hl.1 rfl (lv_room (Nat.le_of_ble_eq_true rfl)) d_Mo_literals_52 ⟨Nat.le_of_ble_eq_true rfl, Nat.le_of_ble_eq_true rfl⟩) hw [0, 1, 2, 3, 4, 5] [] [0, 1, 2, 3, 4, 5] rfl rfl rfl (by decide) rfl rfl (fun H locs hw => ?_)
      refine lv_pop hx hb d_Mo_literals_55 rfl ?_
      obtain ⟨rfl, rfl, rfl, rfl, rfl⟩ := tp_inj5 hm
      exact tp_vret () hx hb hr hlocks hw d_Mo_literals_56
  · replace hm := tp_if hc7 hm
    obtain ⟨rfl, rfl, rfl, rfl, rfl⟩ := tp_inj5 hm
    exact tp_vret () hx hb hr hlocks hw d_Mo_literals_32
set_option maxHeartbeats 4000000 in
set_option maxRecDepth 100000 in
theorem ct_Mo_literals {q_j q_ji q_jo q_jm q_jn q_jf : Nat} {j_in : Int32} {j_out : Int32} {j_made : Int32} {j_known : Int32} {j_fat : Int32} {j_flong : Int32} {j_told : Int32} {j_at : Int32} {j_end : Int32} {j_fault : Int32} {j_fp : Int32} {ji_f : Nat → Int32} {jo_f : Nat → Int32} {jm_f : Nat → Int32} {jn_f : Nat → Int32} {jf_f : Nat → Int32} {N : Nat} {x1 : Int32} {x2 : Int32} {x3 : Int32} {x4 : Int64} {j_made' : Int32} {j_at' : Int32} {j_fault' : Int32} {j_fp' : Int32} {jm_f' : Nat → Int32} (hm : m_Mo_literals N x1 x2 x3 x4 j_made j_at j_end j_fault j_fp ji_f jm_f = some (j_made', j_at', j_fault', j_fp', jm_f')) (sz : Nat) : tp_Cv l y_Mo_literals ws_Mo_literals rm_Mo_literals D (tp_ty cB cI) tM [.ref q_j, .int x1, .int x2, .int x3, .long x4] [(q_j, .inr (7, [.ref q_ji, .int j_in, .ref q_jo, .int j_out, .ref q_jm, .int j_made, .ref q_jn, .ref q_jf, .int j_known, .int j_fat, .int j_flong, .int j_told, .int j_at, .int j_end, .int j_fault, .int j_fp])), (q_ji, .inl (cB, 10000, .inl ji_f)), (q_jo, .inl (cB, 10000, .inl jo_f)), (q_jm, .inl (cB, 20000, .inl jm_f)), (q_jn, .inl (cI, 10001, .inl jn_f)), (q_jf, .inl (cI, 10001, .inl jf_f))] sz [(q_j, .inr (7, [.ref q_ji, .int j_in, .ref q_jo, .int j_out, .ref q_jm, .int j_made', .ref q_jn, .ref q_jf, .int j_known, .int j_fat, .int j_flong, .int j_told, .int j_at', .int j_end, .int j_fault', .int j_fp'])), (q_ji, .inl (cB, 10000, .inl ji_f)), (q_jo, .inl (cB, 10000, .inl jo_f)), (q_jm, .inl (cB, 20000, .inl jm_f')), (q_jn, .inl (cI, 10001, .inl jn_f)), (q_jf, .inl (cI, 10001, .inl jf_f))] := by
  refine Met.ofW (cc := c_Mo_literals) (maxL := 12) (ret := none) (by decide) rfl ?_
  intro p e s m args below meth c s₁ B hml hv
  obtain ⟨rfl, hv⟩ := hv
  have hw := tp_entry hv
  generalize va_A [(q_j, .inr (7, [.ref q_ji, .int j_in, .ref q_jo, .int j_out, .ref q_jm, .int j_made, .ref q_jn, .ref q_jf, .int j_known, .int j_fat, .int j_flong, .int j_told, .int j_at, .int j_end, .int j_fault, .int j_fp])), (q_ji, .inl (cB, 10000, .inl ji_f)), (q_jo, .inl (cB, 10000, .inl jo_f)), (q_jm, .inl (cB, 20000, .inl jm_f)), (q_jn, .inl (cI, 10001, .inl jn_f)), (q_jf, .inl (cI, 10001, .inl jf_f))] sz = A at hw ⊢
  have hx := B.exec
  have hb := B.bytes
  have hr := B.returns
  have hts0 := atoms_spec (ws := ws_Mo_literals) B.pre
  have hts := fun w h => hts0 w (List.mem_cons_of_mem _ h)
  have hown : s.vm.findClass R_Mo = some m.cls := findClass_of_methodNamed B.named
  have hlocks := B.notSynchronized
  have hF : CallFix p m c c_Mo_literals 12 s _ tpG R_Mo := ⟨hx, hb, hml, hown, hts⟩
  have hF2 : tp_F p m c c_Mo_literals 12 s _ tpG R_Mo meth none := ⟨hF, hr, hlocks⟩
  have hl := lv_entry ([.ref q_j, .int x1, .int x2, .int x3, .long x4]) (n := 12) (Nat.le_of_ble_eq_true rfl)
  rw [lg_entry_eq]
  generalize (lg_sl ([.ref q_j, .int x1, .int x2, .int x3, .long x4]) ++ List.replicate (12 - (lg_sl ([.ref q_j, .int x1, .int x2, .int x3, .long x4])).length) Slot.unset).toArray = ls at hl ⊢
  replace hl : lv_has ls 12 [(0, .ref q_j), (1, .int x1), (2, .int x2), (3, .int x3), (4, .long x4)] := hl
  unfold m_Mo_literals at hm
  refine lv_iload_n hx hb d_Mo_literals_0 rfl (lv_at hl 3 rfl) ?_
  refine lv_bipush (v := (60 : Int32)) hx hb d_Mo_literals_1 (by decide +kernel) ?_
  refine lv_icmp_ge (tgt := 13) hx hb d_Mo_literals_3 (by decide +kernel) (fun hc1 => ?_) (fun hc1 => ?_)
  · replace hm := tp_it hc1 hm
    refine lv_aload_n hx hb d_Mo_literals_13 rfl (lv_at hl 0 rfl) ?_
    refine lv_iload_n hx hb d_Mo_literals_14 rfl (lv_at hl 3 rfl) ?_
    refine lv_bipush (v := (59 : Int32)) hx hb d_Mo_literals_15 (by decide +kernel) ?_
    refine lv_isub hx hb d_Mo_literals_17 ?_
    obtain ⟨r2, j_at_3, j_fault_4, j_fp_5, hm6, hm⟩ := tp_b4_e hm
    refine tp_calll (wr := []) (WS' := [(q_j, .inr (7, [.ref q_ji, .int j_in, .ref q_jo, .int j_out, .ref q_jm, .int j_made, .ref q_jn, .ref q_jf, .int j_known, .int j_fat, .int j_flong, .int j_told, .int j_at_3, .int j_end, .int j_fault_4, .int j_fp_5])), (q_ji, .inl (cB, 10000, .inl ji_f)), (q_jo, .inl (cB, 10000, .inl jo_f)), (q_jm, .inl (cB, 20000, .inl jm_f)), (q_jn, .inl (cI, 10001, .inl jn_f)), (q_jf, .inl (cI, 10001, .inl jf_f))]) (va_runV (As := [.int (x3 - (59 : Int32))]) (rest := []) hF (ct_Mo_take (l := l) (D := D) (cB := cB) (cI := cI) (tM := tM) (q_j := q_j) (q_ji := q_ji) (q_jo := q_jo) (q_jm := q_jm) (q_jn := q_jn) (q_jf := q_jf) (j_in := j_in) (j_out := j_out) (j_made := j_made) (j_known := j_known) (j_fat := j_fat) (j_flong := j_flong) (j_told := j_told) (j_at := j_at) (j_end := j_end) (j_fault := j_fault) (j_fp := j_fp) (ji_f := ji_f) (jo_f := jo_f) (jm_f := jm_f) (jn_f := jn_f) (jf_f := jf_f) (x1 := (x3 - (59 : Int32))) (N := N) (r := r2) (j_at' := j_at_3) (j_fault' := j_fault_4) (j_fp' := j_fp_5) hm6 _) (cwV 1 hts (tpG_V wd_413 wd_414 wd_415 wd_340 wd_412) rfl rfl rfl ⟨rfl, yd_Mo_take⟩ ⟨Nat.le_of_ble_eq_true rfl, Nat.le_of_ble_eq_true rfl⟩) ⟨tp_blind, va_recv hw.1 hw.2.1 (ci := 7) (q0 := 0) rfl rfl, tp_pre hw [0, 1, 2, 3, 4, 5] rfl rfl⟩ rfl rfl hl.1 rfl (lv_room (Nat.le_of_ble_eq_true rfl)) d_Mo_literals_18 ⟨Nat.le_of_ble_eq_true rfl, Nat.le_of_ble_eq_true rfl⟩) hw [0, 1, 2, 3, 4, 5] [] [0, 1, 2, 3, 4, 5] rfl rfl rfl (by decide) rfl rfl (fun H locs hw => ?_)
    refine lv_lconst (v := (1 : Int64)) hx hb d_Mo_literals_21 (by decide +kernel) ?_
    refine lv_ladd hx hb d_Mo_literals_22 ?_
    exact w_Mo_literals_23 hF2  _ _ _ _ _ _ _ _ _ _ _ _ hm hw (lv_sub hl [0, 1, 2, 4] rfl)
  · replace hm := tp_if hc1 hm
    refine lv_iload_n hx hb d_Mo_literals_6 rfl (lv_at hl 3 rfl) ?_
    refine lv_i2l (v := (Int32.toInt64 x3)) hx hb d_Mo_literals_7 rfl ?_
    refine lv_lconst (v := (1 : Int64)) hx hb d_Mo_literals_8 (by decide +kernel) ?_
    refine lv_ladd hx hb d_Mo_literals_9 ?_
    refine lv_goto (tgt := 23) hx hb d_Mo_literals_10 (by decide +kernel) ?_
    exact w_Mo_literals_23 hF2  _ _ _ _ _ _ _ _ _ _ _ _ hm hw (lv_sub hl [0, 1, 2, 4] rfl)
end
abbrev rm_Mo_copy : Room := { frames := 2, cells := 0, slots := 0, locals := 51 }
abbrev ws_Mo_copy : List Cond := .code y_Mo_copy c_Mo_copy 12 none :: tpG
noncomputable def m_Mo_copy_78 (N : Nat) (j_end : Int32) (ji_f : Nat → Int32) (rec78 : Int64 → Int64 → Int32 → Int32 → Int32 → Int32 → Int32 → (Nat → Int32) → Option (Int32 × Int32 × Int32 × Int32 × (Nat → Int32))) (x7 : Int64) (x9 : Int64) (x11 : Int32) (j_made : Int32) (j_at : Int32) (j_fault : Int32) (j_fp : Int32) (jm_f : Nat → Int32) : Option (Int32 × Int32 × Int32 × Int32 × (Nat → Int32)) :=
  if 0 ≤ (lg_cmp (Int32.toInt64 x11) x7) then
    some (j_made, j_at, j_fault, j_fp, jm_f)
  else
    tp_gd (tp_inb (j_made - (Int64.toInt32 x9)) 20000) <|
    tp_b2 (m_Mo_put (jm_f (Int32.toNatClampNeg (j_made - (Int64.toInt32 x9)))) j_made jm_f) fun j_made_17 jm_f_18 =>
    rec78 x7 x9 (x11 + (1 : Int32)) j_made_17 j_at j_fault j_fp jm_f_18
noncomputable def m_Mo_copy_59 (N : Nat) (j_end : Int32) (ji_f : Nat → Int32) (x1 : Int32) (x2 : Int32) (x5 : Int64) (x7 : Int64) (x9 : Int64) (j_made : Int32) (j_at : Int32) (j_fault : Int32) (j_fp : Int32) (jm_f : Nat → Int32) : Option (Int32 × Int32 × Int32 × Int32 × (Nat → Int32)) :=
  tp_b3 (m_Mo_fitting x1 x2 x9 x7 x5 j_made j_fault j_fp) fun r10 j_fault_11 j_fp_12 =>
  if r10 = 0 then
    some (j_made, j_at, j_fault_11, j_fp_12, jm_f)
  else
    tp_it8 (m_Mo_copy_78 N j_end ji_f ) N x7 x9 (0 : Int32) j_made j_at j_fault_11 j_fp_12 jm_f
noncomputable def m_Mo_copy_34 (N : Nat) (j_end : Int32) (ji_f : Nat → Int32) (x1 : Int32) (x2 : Int32) (x3 : Int32) (x4 : Int32) (x5 : Int64) (x7 : Int64) (k1 : Int32) (j_made : Int32) (j_at : Int32) (j_fault : Int32) (j_fp : Int32) (jm_f : Nat → Int32) : Option (Int32 × Int32 × Int32 × Int32 × (Nat → Int32)) :=
  tp_b4 (m_Mo_take N k1 j_at j_end j_fault j_fp ji_f) fun r3 j_at_4 j_fault_5 j_fp_6 =>
  if x3 = (1 : Int32) then
    tp_b0 (r3 + ((256 : Int64) * (Int32.toInt64 (x4 / (8 : Int32))))) fun y9 =>
    m_Mo_copy_59 N j_end ji_f  x1 x2 x5 x7 y9 j_made j_at_4 j_fault_5 j_fp_6 jm_f
  else
    m_Mo_copy_59 N j_end ji_f  x1 x2 x5 x7 r3 j_made j_at_4 j_fault_5 j_fp_6 jm_f
noncomputable def m_Mo_copy_21 (N : Nat) (j_end : Int32) (ji_f : Nat → Int32) (x1 : Int32) (x2 : Int32) (x3 : Int32) (x4 : Int32) (x5 : Int64) (k0 : Int64) (j_made : Int32) (j_at : Int32) (j_fault : Int32) (j_fp : Int32) (jm_f : Nat → Int32) : Option (Int32 × Int32 × Int32 × Int32 × (Nat → Int32)) :=
  if x3 = (3 : Int32) then
    m_Mo_copy_34 N j_end ji_f  x1 x2 x3 x4 x5 k0 (4 : Int32) j_made j_at j_fault j_fp jm_f
  else
    m_Mo_copy_34 N j_end ji_f  x1 x2 x3 x4 x5 k0 x3 j_made j_at j_fault j_fp jm_f
noncomputable def m_Mo_copy (N : Nat) (x1 : Int32) (x2 : Int32) (x3 : Int32) (x4 : Int32) (x5 : Int64) (j_made : Int32) (j_at : Int32) (j_end : Int32) (j_fault : Int32) (j_fp : Int32) (ji_f : Nat → Int32) (jm_f : Nat → Int32) : Option (Int32 × Int32 × Int32 × Int32 × (Nat → Int32)) :=
  if x3 = (1 : Int32) then
    m_Mo_copy_21 N j_end ji_f  x1 x2 x3 x4 x5 (Int32.toInt64 ((x4 - x4 / (8 : Int32) * (8 : Int32)) + (4 : Int32))) j_made j_at j_fault j_fp jm_f
  else
    m_Mo_copy_21 N j_end ji_f  x1 x2 x3 x4 x5 (Int32.toInt64 (x4 + (1 : Int32))) j_made j_at j_fault j_fp jm_f
section
variable {p : Program} {l : Launch} {e : Env} {s : State} {m : MethodId} {args : Array Value} {below : List Frame} {meth : Method} {c : Code} {A : Nat → Prop} {D : va_G} {cB cI : ClassId} {tM : Nat}
set_option maxHeartbeats 4000000 in
set_option maxRecDepth 100000 in
theorem w_Mo_copy_78 {q_j q_ji q_jo q_jm q_jn q_jf : Nat} {j_in : Int32} {j_out : Int32} {j_known : Int32} {j_fat : Int32} {j_flong : Int32} {j_told : Int32} {j_end : Int32} {ji_f : Nat → Int32} {jo_f : Nat → Int32} {jn_f : Nat → Int32} {jf_f : Nat → Int32} {N : Nat} {j_made' : Int32} {j_at' : Int32} {j_fault' : Int32} {j_fp' : Int32} {jm_f' : Nat → Int32} (hF2 : tp_F p m c c_Mo_copy 12 s args tpG R_Mo meth none) : ∀ (n : Nat), ∀ (x7 : Int64) (x9 : Int64) (x11 : Int32) (j_made : Int32) (j_at : Int32) (j_fault : Int32) (j_fp : Int32) (jm_f : Nat → Int32) (H : Heap) (locs : List Loc) (ls : Array Slot), tp_it8 (m_Mo_copy_78 N j_end ji_f ) n x7 x9 x11 j_made j_at j_fault j_fp jm_f = some (j_made', j_at', j_fault', j_fp', jm_f') → tp_Wd D (tp_ty cB cI) tM A s H locs [(q_j, .inr (7, [.ref q_ji, .int j_in, .ref q_jo, .int j_out, .ref q_jm, .int j_made, .ref q_jn, .ref q_jf, .int j_known, .int j_fat, .int j_flong, .int j_told, .int j_at, .int j_end, .int j_fault, .int j_fp])), (q_ji, .inl (cB, 10000, .inl ji_f)), (q_jo, .inl (cB, 10000, .inl jo_f)), (q_jm, .inl (cB, 20000, .inl jm_f)), (q_jn, .inl (cI, 10001, .inl jn_f)), (q_jf, .inl (cI, 10001, .inl jf_f))] → lv_has ls 12 [(0, .ref q_j), (7, .long x7), (9, .long x9), (11, .int x11)] → W p l e rm_Mo_copy s m args below meth c H locs 0 0 (MQ below (tp_Qv (S := Unit) D A (fun _ => [(q_j, .inr (7, [.ref q_ji, .int j_in, .ref q_jo, .int j_out, .ref q_jm, .int j_made', .ref q_jn, .ref q_jf, .int j_known, .int j_fat, .int j_flong, .int j_told, .int j_at', .int j_end, .int j_fault', .int j_fp'])), (q_ji, .inl (cB, 10000, .inl ji_f)), (q_jo, .inl (cB, 10000, .inl jo_f)), (q_jm, .inl (cB, 20000, .inl jm_f')), (q_jn, .inl (cI, 10001, .inl jn_f)), (q_jf, .inl (cI, 10001, .inl jf_f))])) args s 0 0 A) (F0 m 78 ls []) := by
  obtain ⟨hF, hr, hlocks⟩ := id hF2
  obtain ⟨hx, hb, hml, hown, hts⟩ := id hF
  intro n
  induction n with
  | zero => intro x7 x9 x11 j_made j_at j_fault j_fp jm_f H locs ls hm; exact absurd hm (by simp [tp_it8])
  | succ n ih78 =>
    intro x7 x9 x11 j_made j_at j_fault j_fp jm_f H locs ls hm hw hl
    replace hm : m_Mo_copy_78 N j_end ji_f  (tp_it8 (m_Mo_copy_78 N j_end ji_f ) n) x7 x9 x11 j_made j_at j_fault j_fp jm_f = some (j_made', j_at', j_fault', j_fp', jm_f') := hm
    unfold m_Mo_copy_78 at hm
    refine lv_iload hx hb d_Mo_copy_78 (lv_at hl 3 rfl) ?_
    refine lv_i2l (v := (Int32.toInt64 x11)) hx hb d_Mo_copy_80 rfl ?_
    refine lv_lload hx hb d_Mo_copy_81 (lv_at hl 1 rfl) ?_
    refine W.lcmp hx hb d_Mo_copy_83 ?_
    refine lv_if_ge (tgt := 110) hx hb d_Mo_copy_84 (by decide +kernel) (fun hc15 => ?_) (fun hc15 => ?_)
    · replace hm := tp_it hc15 hm
      obtain ⟨rfl, rfl, rfl, rfl, rfl⟩ := tp_inj5 hm
      exact tp_vret () hx hb hr hlocks hw d_Mo_copy_110
    · replace hm := tp_if hc15 hm
      refine lv_aload_n hx hb d_Mo_copy_87 rfl (lv_at hl 0 rfl) ?_
      refine lv_aload_n hx hb d_Mo_copy_88 rfl (lv_at hl 0 rfl) ?_
      refine tp_get (v := .ref q_jm) (C := R_Mo) (T := T_Mo) hx hb hts fw_Mo hown hw 0 rfl rfl 4 (by decide +kernel) (hts _ wd_338) rfl d_Mo_copy_89 ?_
      refine lv_aload_n hx hb d_Mo_copy_92 rfl (lv_at hl 0 rfl) ?_
      refine tp_get (v := .int j_made) (C := R_Mo) (T := T_Mo) hx hb hts fw_Mo hown hw 0 rfl rfl 5 (by decide +kernel) (hts _ wd_337) rfl d_Mo_copy_93 ?_
      refine lv_lload hx hb d_Mo_copy_96 (lv_at hl 2 rfl) ?_
      refine lv_l2i (v := (Int64.toInt32 x9)) hx hb d_Mo_copy_98 rfl ?_
      refine lv_isub hx hb d_Mo_copy_99 ?_
      obtain ⟨hi16, hm⟩ := tp_gd_e hm
      refine tp_bald hx hb hw 3 0 rfl rfl hi16 d_Mo_copy_100 ?_
      obtain ⟨j_made_17, jm_f_18, hm19, hm⟩ := tp_b2_e hm
      refine tp_callv (wr := []) (WS' := [(q_j, .inr (7, [.ref q_ji, .int j_in, .ref q_jo, .int j_out, .ref q_jm, .int j_made_17, .ref q_jn, .ref q_jf, .int j_known, .int j_fat, .int j_flong, .int j_told, .int j_at, .int j_end, .int j_fault, .int j_fp])), (q_ji, .inl (cB, 10000, .inl ji_f)), (q_jo, .inl (cB, 10000, .inl jo_f)), (q_jm, .inl (cB, 20000, .inl jm_f_18)), (q_jn, .inl (cI, 10001, .inl jn_f)), (q_jf, .inl (cI, 10001, .inl jf_f))]) (va_runV (As := [.int (jm_f (Int32.toNatClampNeg (j_made - (Int64.toInt32 x9))))]) (rest := []) hF (ct_Mo_put (l := l) (D := D) (cB := cB) (cI := cI) (tM := tM) (q_j := q_j) (q_ji := q_ji) (q_jo := q_jo) (q_jm := q_jm) (q_jn := q_jn) (q_jf := q_jf) (j_in := j_in) (j_out := j_out) (j_made := j_made) (j_known := j_known) (j_fat := j_fat) (j_flong := j_flong) (j_told := j_told) (j_at := j_at) (j_end := j_end) (j_fault := j_fault) (j_fp := j_fp) (ji_f := ji_f) (jo_f := jo_f) (jm_f := jm_f) (jn_f := jn_f) (jf_f := jf_f) (x1 := (jm_f (Int32.toNatClampNeg (j_made - (Int64.toInt32 x9))))) (j_made' := j_made_17) (jm_f' := jm_f_18) hm19 _) (cwV 1 hts (tpG_V wd_341 wd_342 wd_343 wd_340 wd_339) rfl rfl rfl ⟨rfl, yd_Mo_put⟩ ⟨Nat.le_of_ble_eq_true rfl, Nat.le_of_ble_eq_true rfl⟩) ⟨tp_blind, va_recv hw.1 hw.2.1 (ci := 7) (q0 := 0) rfl rfl, tp_pre hw [0, 1, 2, 3, 4, 5] rfl rfl⟩ rfl rfl hl.1 rfl (lv_room (Nat.le_of_ble_eq_true rfl)) d_Mo_copy_101 ⟨Nat.le_of_ble_eq_true rfl, Nat.le_of_ble_eq_true rfl⟩) hw [0, 1, 2, 3, 4, 5] [] [0, 1, 2, 3, 4, 5] rfl rfl rfl (by decide) rfl rfl (fun H locs hw => ?_)
      refine lv_iinc (v := (x11 + (1 : Int32))) (lv' := [(11, .int (x11 + (1 : Int32))), (0, .ref q_j), (7, .long x7), (9, .long x9)]) hx hb d_Mo_copy_104 hl (k := 3) rfl rfl (by decide +kernel) rfl (fun ls hl => ?_)
      refine lv_goto (tgt := 78) hx hb d_Mo_copy_107 (by decide +kernel) ?_
      exact ih78 _ _ _ _ _ _ _ _ _ _ _ hm hw (lv_sub hl [1, 2, 3, 0] rfl)
set_option maxHeartbeats 4000000 in
set_option maxRecDepth 100000 in
theorem w_Mo_copy_59 {q_j q_ji q_jo q_jm q_jn q_jf : Nat} {j_in : Int32} {j_out : Int32} {j_known : Int32} {j_fat : Int32} {j_flong : Int32} {j_told : Int32} {j_end : Int32} {ji_f : Nat → Int32} {jo_f : Nat → Int32} {jn_f : Nat → Int32} {jf_f : Nat → Int32} {N : Nat} {j_made' : Int32} {j_at' : Int32} {j_fault' : Int32} {j_fp' : Int32} {jm_f' : Nat → Int32} (hF2 : tp_F p m c c_Mo_copy 12 s args tpG R_Mo meth none) : ∀ (x1 : Int32) (x2 : Int32) (x5 : Int64) (x7 : Int64) (x9 : Int64) (j_made : Int32) (j_at : Int32) (j_fault : Int32) (j_fp : Int32) (jm_f : Nat → Int32) (H : Heap) (locs : List Loc) (ls : Array Slot), m_Mo_copy_59 N j_end ji_f  x1 x2 x5 x7 x9 j_made j_at j_fault j_fp jm_f = some (j_made', j_at', j_fault', j_fp', jm_f') → tp_Wd D (tp_ty cB cI) tM A s H locs [(q_j, .inr (7, [.ref q_ji, .int j_in, .ref q_jo, .int j_out, .ref q_jm, .int j_made, .ref q_jn, .ref q_jf, .int j_known, .int j_fat, .int j_flong, .int j_told, .int j_at, .int j_end, .int j_fault, .int j_fp])), (q_ji, .inl (cB, 10000, .inl ji_f)), (q_jo, .inl (cB, 10000, .inl jo_f)), (q_jm, .inl (cB, 20000, .inl jm_f)), (q_jn, .inl (cI, 10001, .inl jn_f)), (q_jf, .inl (cI, 10001, .inl jf_f))] → lv_has ls 12 [(0, .ref q_j), (1, .int x1), (2, .int x2), (5, .long x5), (7, .long x7), (9, .long x9)] → W p l e rm_Mo_copy s m args below meth c H locs 0 0 (MQ below (tp_Qv (S := Unit) D A (fun _ => [(q_j, .inr (7, [.ref q_ji, .int j_in, .ref q_jo, .int j_out, .ref q_jm, .int j_made', .ref q_jn, .ref q_jf, .int j_known, .int j_fat, .int j_flong, .int j_told, .int j_at', .int j_end, .int j_fault', .int j_fp'])), (q_ji, .inl (cB, 10000, .inl ji_f)), (q_jo, .inl (cB, 10000, .inl jo_f)), (q_jm, .inl (cB, 20000, .inl jm_f')), (q_jn, .inl (cI, 10001, .inl jn_f)), (q_jf, .inl (cI, 10001, .inl jf_f))])) args s 0 0 A) (F0 m 59 ls []) := by
  obtain ⟨hF, hr, hlocks⟩ := id hF2
  obtain ⟨hx, hb, hml, hown, hts⟩ := id hF
  intro x1 x2 x5 x7 x9 j_made j_at j_fault j_fp jm_f H locs ls hm hw hl
  unfold m_Mo_copy_59 at hm
  refine lv_aload_n hx hb d_Mo_copy_59 rfl (lv_at hl 0 rfl) ?_
  refine lv_iload_n hx hb d_Mo_copy_60 rfl (lv_at hl 1 rfl) ?_
  refine lv_iload_n hx hb d_Mo_copy_61 rfl (lv_at hl 2 rfl) ?_
  refine lv_lload hx hb d_Mo_copy_62 (lv_at hl 5 rfl) ?_
  refine lv_lload hx hb d_Mo_copy_64 (lv_at hl 4 rfl) ?_
  refine lv_lload hx hb d_Mo_copy_66 (lv_at hl 3 rfl) ?_
  obtain ⟨r10, j_fault_11, j_fp_12, hm13, hm⟩ := tp_b3_e hm
  refine tp_calli (wr := []) (WS' := [(q_j, .inr (7, [.ref q_ji, .int j_in, .ref q_jo, .int j_out, .ref q_jm, .int j_made, .ref q_jn, .ref q_jf, .int j_known, .int j_fat, .int j_flong, .int j_told, .int j_at, .int j_end, .int j_fault_11, .int j_fp_12])), (q_ji, .inl (cB, 10000, .inl ji_f)), (q_jo, .inl (cB, 10000, .inl jo_f)), (q_jm, .inl (cB, 20000, .inl jm_f)), (q_jn, .inl (cI, 10001, .inl jn_f)), (q_jf, .inl (cI, 10001, .inl jf_f))]) (va_runV (As := [.int x1, .int x2, .long x9, .long x7, .long x5]) (rest := []) hF (ct_Mo_fitting (l := l) (D := D) (cB := cB) (cI := cI) (tM := tM) (q_j := q_j) (q_ji := q_ji) (q_jo := q_jo) (q_jm := q_jm) (q_jn := q_jn) (q_jf := q_jf) (j_in := j_in) (j_out := j_out) (j_made := j_made) (j_known := j_known) (j_fat := j_fat) (j_flong := j_flong) (j_told := j_told) (j_at := j_at) (j_end := j_end) (j_fault := j_fault) (j_fp := j_fp) (ji_f := ji_f) (jo_f := jo_f) (jm_f := jm_f) (jn_f := jn_f) (jf_f := jf_f) (x1 := x1) (x2 := x2) (x3 := x9) (x5 := x7) (x7 := x5) (r := r10) (j_fault' := j_fault_11) (j_fp' := j_fp_12) hm13 _) (cwV 5 hts (tpG_V wd_421 wd_422 wd_423 wd_340 wd_420) rfl rfl rfl ⟨rfl, yd_Mo_fitting⟩ ⟨Nat.le_of_ble_eq_true rfl, Nat.le_of_ble_eq_true rfl⟩) ⟨tp_blind, va_recv hw.1 hw.2.1 (ci := 7) (q0 := 0) rfl rfl, tp_pre hw [0, 1, 2, 3, 4, 5] rfl rfl⟩ rfl rfl hl.1 rfl (lv_room (Nat.le_of_ble_eq_true rfl)) d_Mo_copy_68 ⟨Nat.le_of_ble_eq_true rfl, Nat.le_of_ble_eq_true rfl⟩) hw [0, 1, 2, 3, 4, 5] [] [0, 1, 2, 3, 4, 5] rfl rfl rfl (by decide) rfl rfl (fun H locs hw => ?_)
  refine lv_if_ne (tgt := 75) hx hb d_Mo_copy_71 (by decide +kernel) (fun hc14 => ?_) (fun hc14 => ?_)
  · replace hm := tp_if hc14 hm
    refine lv_iconst (v := (0 : Int32)) hx hb d_Mo_copy_75 (by decide +kernel) ?_
    refine lv_istore (lv' := [(11, .int (0 : Int32)), (0, .ref q_j), (1, .int x1), (2, .int x2), (5, .long x5), (7, .long x7), (9, .long x9)]) hx hb d_Mo_copy_76 hl (by decide +kernel) rfl (fun ls hl => ?_)
    exact w_Mo_copy_78 hF2  N _ _ _ _ _ _ _ _ _ _ _ hm hw (lv_sub hl [1, 5, 6, 0] rfl)
  · replace hm := tp_it hc14 hm
    obtain ⟨rfl, rfl, rfl, rfl, rfl⟩ := tp_inj5 hm
    exact tp_vret () hx hb hr hlocks hw d_Mo_copy_74
set_option maxHeartbeats 4000000 in
set_option maxRecDepth 100000 in
theorem w_Mo_copy_34 {q_j q_ji q_jo q_jm q_jn q_jf : Nat} {j_in : Int32} {j_out : Int32} {j_known : Int32} {j_fat : Int32} {j_flong : Int32} {j_told : Int32} {j_end : Int32} {ji_f : Nat → Int32} {jo_f : Nat → Int32} {jn_f : Nat → Int32} {jf_f : Nat → Int32} {N : Nat} {j_made' : Int32} {j_at' : Int32} {j_fault' : Int32} {j_fp' : Int32} {jm_f' : Nat → Int32} (hF2 : tp_F p m c c_Mo_copy 12 s args tpG R_Mo meth none) : ∀ (x1 : Int32) (x2 : Int32) (x3 : Int32) (x4 : Int32) (x5 : Int64) (x7 : Int64) (k1 : Int32) (j_made : Int32) (j_at : Int32) (j_fault : Int32) (j_fp : Int32) (jm_f : Nat → Int32) (H : Heap) (locs : List Loc) (ls : Array Slot), m_Mo_copy_34 N j_end ji_f  x1 x2 x3 x4 x5 x7 k1 j_made j_at j_fault j_fp jm_f = some (j_made', j_at', j_fault', j_fp', jm_f') → tp_Wd D (tp_ty cB cI) tM A s H locs [(q_j, .inr (7, [.ref q_ji, .int j_in, .ref q_jo, .int j_out, .ref q_jm, .int j_made, .ref q_jn, .ref q_jf, .int j_known, .int j_fat, .int j_flong, .int j_told, .int j_at, .int j_end, .int j_fault, .int j_fp])), (q_ji, .inl (cB, 10000, .inl ji_f)), (q_jo, .inl (cB, 10000, .inl jo_f)), (q_jm, .inl (cB, 20000, .inl jm_f)), (q_jn, .inl (cI, 10001, .inl jn_f)), (q_jf, .inl (cI, 10001, .inl jf_f))] → lv_has ls 12 [(0, .ref q_j), (1, .int x1), (2, .int x2), (3, .int x3), (4, .int x4), (5, .long x5), (7, .long x7)] → W p l e rm_Mo_copy s m args below meth c H locs 0 0 (MQ below (tp_Qv (S := Unit) D A (fun _ => [(q_j, .inr (7, [.ref q_ji, .int j_in, .ref q_jo, .int j_out, .ref q_jm, .int j_made', .ref q_jn, .ref q_jf, .int j_known, .int j_fat, .int j_flong, .int j_told, .int j_at', .int j_end, .int j_fault', .int j_fp'])), (q_ji, .inl (cB, 10000, .inl ji_f)), (q_jo, .inl (cB, 10000, .inl jo_f)), (q_jm, .inl (cB, 20000, .inl jm_f')), (q_jn, .inl (cI, 10001, .inl jn_f)), (q_jf, .inl (cI, 10001, .inl jf_f))])) args s 0 0 A) (F0 m 34 ls [.int k1, .ref q_j]) := by
  obtain ⟨hF, hr, hlocks⟩ := id hF2
  obtain ⟨hx, hb, hml, hown, hts⟩ := id hF
  intro x1 x2 x3 x4 x5 x7 k1 j_made j_at j_fault j_fp jm_f H locs ls hm hw hl
  unfold m_Mo_copy_34 at hm
  obtain ⟨r3, j_at_4, j_fault_5, j_fp_6, hm7, hm⟩ := tp_b4_e hm
  refine tp_calll (wr := []) (WS' := [(q_j, .inr (7, [.ref q_ji, .int j_in, .ref q_jo, .int j_out, .ref q_jm, .int j_made, .ref q_jn, .ref q_jf, .int j_known, .int j_fat, .int j_flong, .int j_told, .int j_at_4, .int j_end, .int j_fault_5, .int j_fp_6])), (q_ji, .inl (cB, 10000, .inl ji_f)), (q_jo, .inl (cB, 10000, .inl jo_f)), (q_jm, .inl (cB, 20000, .inl jm_f)), (q_jn, .inl (cI, 10001, .inl jn_f)), (q_jf, .inl (cI, 10001, .inl jf_f))]) (va_runV (As := [.int k1]) (rest := []) hF (ct_Mo_take (l := l) (D := D) (cB := cB) (cI := cI) (tM := tM) (q_j := q_j) (q_ji := q_ji) (q_jo := q_jo) (q_jm := q_jm) (q_jn := q_jn) (q_jf := q_jf) (j_in := j_in) (j_out := j_out) (j_made := j_made) (j_known := j_known) (j_fat := j_fat) (j_flong := j_flong) (j_told := j_told) (j_at := j_at) (j_end := j_end) (j_fault := j_fault) (j_fp := j_fp) (ji_f := ji_f) (jo_f := jo_f) (jm_f := jm_f) (jn_f := jn_f) (jf_f := jf_f) (x1 := k1) (N := N) (r := r3) (j_at' := j_at_4) (j_fault' := j_fault_5) (j_fp' := j_fp_6) hm7 _) (cwV 1 hts (tpG_V wd_413 wd_414 wd_415 wd_340 wd_412) rfl rfl rfl ⟨rfl, yd_Mo_take⟩ ⟨Nat.le_of_ble_eq_true rfl, Nat.le_of_ble_eq_true rfl⟩) ⟨tp_blind, va_recv hw.1 hw.2.1 (ci := 7) (q0 := 0) rfl rfl, tp_pre hw [0, 1, 2, 3, 4, 5] rfl rfl⟩ rfl rfl hl.1 rfl (lv_room (Nat.le_of_ble_eq_true rfl)) d_Mo_copy_34 ⟨Nat.le_of_ble_eq_true rfl, Nat.le_of_ble_eq_true rfl⟩) hw [0, 1, 2, 3, 4, 5] [] [0, 1, 2, 3, 4, 5] rfl rfl rfl (by decide) rfl rfl (fun H locs hw => ?_)
  refine lv_lstore (lv' := [(9, .long r3), (0, .ref q_j), (1, .int x1), (2, .int x2), (3, .int x3), (4, .int x4), (5, .long x5), (7, .long x7)]) hx hb d_Mo_copy_37 hl (by decide +kernel) rfl (fun ls hl => ?_)
  refine lv_iload_n hx hb d_Mo_copy_39 rfl (lv_at hl 4 rfl) ?_
  refine lv_iconst (v := (1 : Int32)) hx hb d_Mo_copy_40 (by decide +kernel) ?_
  refine lv_icmp_ne (tgt := 59) hx hb d_Mo_copy_41 (by decide +kernel) (fun hc8 => ?_) (fun hc8 => ?_)
  · replace hm := tp_if hc8 hm
    exact w_Mo_copy_59 hF2  _ _ _ _ _ _ _ _ _ _ _ _ _ hm hw (lv_sub hl [1, 2, 3, 6, 7, 0] rfl)
  · replace hm := tp_it hc8 hm
    refine lv_lload hx hb d_Mo_copy_44 (lv_at hl 0 rfl) ?_
    refine lv_ldc2 (v := (256 : Int64)) hx hb hown (hts _ wd_419) d_Mo_copy_46 ?_
    refine lv_iload hx hb d_Mo_copy_49 (lv_at hl 5 rfl) ?_
    refine lv_bipush (v := (8 : Int32)) hx hb d_Mo_copy_51 (by decide +kernel) ?_
    refine lv_idiv hx hb d_Mo_copy_53 (by decide +kernel) ?_
    refine lv_i2l (v := (Int32.toInt64 (x4 / (8 : Int32)))) hx hb d_Mo_copy_54 rfl ?_
    refine lv_lmul hx hb d_Mo_copy_55 ?_
    refine lv_ladd hx hb d_Mo_copy_56 ?_
    obtain ⟨y9, ey9, hm⟩ := tp_b0_e hm
    refine tp_topl ey9 ?_
    refine lv_lstore (lv' := [(9, .long y9), (0, .ref q_j), (1, .int x1), (2, .int x2), (3, .int x3), (4, .int x4), (5, .long x5), (7, .long x7)]) hx hb d_Mo_copy_57 hl (by decide +kernel) rfl (fun ls hl => ?_)
    exact w_Mo_copy_59 hF2  _ _ _ _ _ _ _ _ _ _ _ _ _ hm hw (lv_sub hl [1, 2, 3, 6, 7, 0] rfl)
set_option maxHeartbeats 4000000 in
set_option maxRecDepth 100000 in
theorem w_Mo_copy_21 {q_j q_ji q_jo q_jm q_jn q_jf : Nat} {j_in : Int32} {j_out : Int32} {j_known : Int32} {j_fat : Int32} {j_flong : Int32} {j_told : Int32} {j_end : Int32} {ji_f : Nat → Int32} {jo_f : Nat → Int32} {jn_f : Nat → Int32} {jf_f : Nat → Int32} {N : Nat} {j_made' : Int32} {j_at' : Int32} {j_fault' : Int32} {j_fp' : Int32} {jm_f' : Nat → Int32} (hF2 : tp_F p m c c_Mo_copy 12 s args tpG R_Mo meth none) : ∀ (x1 : Int32) (x2 : Int32) (x3 : Int32) (x4 : Int32) (x5 : Int64) (k0 : Int64) (j_made : Int32) (j_at : Int32) (j_fault : Int32) (j_fp : Int32) (jm_f : Nat → Int32) (H : Heap) (locs : List Loc) (ls : Array Slot), m_Mo_copy_21 N j_end ji_f  x1 x2 x3 x4 x5 k0 j_made j_at j_fault j_fp jm_f = some (j_made', j_at', j_fault', j_fp', jm_f') → tp_Wd D (tp_ty cB cI) tM A s H locs [(q_j, .inr (7, [.ref q_ji, .int j_in, .ref q_jo, .int j_out, .ref q_jm, .int j_made, .ref q_jn, .ref q_jf, .int j_known, .int j_fat, .int j_flong, .int j_told, .int j_at, .int j_end, .int j_fault, .int j_fp])), (q_ji, .inl (cB, 10000, .inl ji_f)), (q_jo, .inl (cB, 10000, .inl jo_f)), (q_jm, .inl (cB, 20000, .inl jm_f)), (q_jn, .inl (cI, 10001, .inl jn_f)), (q_jf, .inl (cI, 10001, .inl jf_f))] → lv_has ls 12 [(0, .ref q_j), (1, .int x1), (2, .int x2), (3, .int x3), (4, .int x4), (5, .long x5)] → W p l e rm_Mo_copy s m args below meth c H locs 0 0 (MQ below (tp_Qv (S := Unit) D A (fun _ => [(q_j, .inr (7, [.ref q_ji, .int j_in, .ref q_jo, .int j_out, .ref q_jm, .int j_made', .ref q_jn, .ref q_jf, .int j_known, .int j_fat, .int j_flong, .int j_told, .int j_at', .int j_end, .int j_fault', .int j_fp'])), (q_ji, .inl (cB, 10000, .inl ji_f)), (q_jo, .inl (cB, 10000, .inl jo_f)), (q_jm, .inl (cB, 20000, .inl jm_f')), (q_jn, .inl (cI, 10001, .inl jn_f)), (q_jf, .inl (cI, 10001, .inl jf_f))])) args s 0 0 A) (F0 m 21 ls [.long k0]) := by
  obtain ⟨hF, hr, hlocks⟩ := id hF2
  obtain ⟨hx, hb, hml, hown, hts⟩ := id hF
  intro x1 x2 x3 x4 x5 k0 j_made j_at j_fault j_fp jm_f H locs ls hm hw hl
  unfold m_Mo_copy_21 at hm
  refine lv_lstore (lv' := [(7, .long k0), (0, .ref q_j), (1, .int x1), (2, .int x2), (3, .int x3), (4, .int x4), (5, .long x5)]) hx hb d_Mo_copy_21 hl (by decide +kernel) rfl (fun ls hl => ?_)
  refine lv_aload_n hx hb d_Mo_copy_23 rfl (lv_at hl 1 rfl) ?_
  refine lv_iload_n hx hb d_Mo_copy_24 rfl (lv_at hl 4 rfl) ?_
  refine lv_iconst (v := (3 : Int32)) hx hb d_Mo_copy_25 (by decide +kernel) ?_
  refine lv_icmp_ne (tgt := 33) hx hb d_Mo_copy_26 (by decide +kernel) (fun hc2 => ?_) (fun hc2 => ?_)
  · replace hm := tp_if hc2 hm
    refine lv_iload_n hx hb d_Mo_copy_33 rfl (lv_at hl 4 rfl) ?_
    exact w_Mo_copy_34 hF2  _ _ _ _ _ _ _ _ _ _ _ _ _ _ _ hm hw (lv_sub hl [1, 2, 3, 4, 5, 6, 0] rfl)
  · replace hm := tp_it hc2 hm
    refine lv_iconst (v := (4 : Int32)) hx hb d_Mo_copy_29 (by decide +kernel) ?_
    refine lv_goto (tgt := 34) hx hb d_Mo_copy_30 (by decide +kernel) ?_
    exact w_Mo_copy_34 hF2  _ _ _ _ _ _ _ _ _ _ _ _ _ _ _ hm hw (lv_sub hl [1, 2, 3, 4, 5, 6, 0] rfl)
set_option maxHeartbeats 4000000 in
set_option maxRecDepth 100000 in
theorem ct_Mo_copy {q_j q_ji q_jo q_jm q_jn q_jf : Nat} {j_in : Int32} {j_out : Int32} {j_made : Int32} {j_known : Int32} {j_fat : Int32} {j_flong : Int32} {j_told : Int32} {j_at : Int32} {j_end : Int32} {j_fault : Int32} {j_fp : Int32} {ji_f : Nat → Int32} {jo_f : Nat → Int32} {jm_f : Nat → Int32} {jn_f : Nat → Int32} {jf_f : Nat → Int32} {N : Nat} {x1 : Int32} {x2 : Int32} {x3 : Int32} {x4 : Int32} {x5 : Int64} {j_made' : Int32} {j_at' : Int32} {j_fault' : Int32} {j_fp' : Int32} {jm_f' : Nat → Int32} (hm : m_Mo_copy N x1 x2 x3 x4 x5 j_made j_at j_end j_fault j_fp ji_f jm_f = some (j_made', j_at', j_fault', j_fp', jm_f')) (sz : Nat) : tp_Cv l y_Mo_copy ws_Mo_copy rm_Mo_copy D (tp_ty cB cI) tM [.ref q_j, .int x1, .int x2, .int x3, .int x4, .long x5] [(q_j, .inr (7, [.ref q_ji, .int j_in, .ref q_jo, .int j_out, .ref q_jm, .int j_made, .ref q_jn, .ref q_jf, .int j_known, .int j_fat, .int j_flong, .int j_told, .int j_at, .int j_end, .int j_fault, .int j_fp])), (q_ji, .inl (cB, 10000, .inl ji_f)), (q_jo, .inl (cB, 10000, .inl jo_f)), (q_jm, .inl (cB, 20000, .inl jm_f)), (q_jn, .inl (cI, 10001, .inl jn_f)), (q_jf, .inl (cI, 10001, .inl jf_f))] sz [(q_j, .inr (7, [.ref q_ji, .int j_in, .ref q_jo, .int j_out, .ref q_jm, .int j_made', .ref q_jn, .ref q_jf, .int j_known, .int j_fat, .int j_flong, .int j_told, .int j_at', .int j_end, .int j_fault', .int j_fp'])), (q_ji, .inl (cB, 10000, .inl ji_f)), (q_jo, .inl (cB, 10000, .inl jo_f)), (q_jm, .inl (cB, 20000, .inl jm_f')), (q_jn, .inl (cI, 10001, .inl jn_f)), (q_jf, .inl (cI, 10001, .inl jf_f))] := by
  refine Met.ofW (cc := c_Mo_copy) (maxL := 12) (ret := none) (by decide) rfl ?_
  intro p e s m args below meth c s₁ B hml hv
  obtain ⟨rfl, hv⟩ := hv
  have hw := tp_entry hv
  generalize va_A [(q_j, .inr (7, [.ref q_ji, .int j_in, .ref q_jo, .int j_out, .ref q_jm, .int j_made, .ref q_jn, .ref q_jf, .int j_known, .int j_fat, .int j_flong, .int j_told, .int j_at, .int j_end, .int j_fault, .int j_fp])), (q_ji, .inl (cB, 10000, .inl ji_f)), (q_jo, .inl (cB, 10000, .inl jo_f)), (q_jm, .inl (cB, 20000, .inl jm_f)), (q_jn, .inl (cI, 10001, .inl jn_f)), (q_jf, .inl (cI, 10001, .inl jf_f))] sz = A at hw ⊢
  have hx := B.exec
  have hb := B.bytes
  have hr := B.returns
  have hts0 := atoms_spec (ws := ws_Mo_copy) B.pre
  have hts := fun w h => hts0 w (List.mem_cons_of_mem _ h)
  have hown : s.vm.findClass R_Mo = some m.cls := findClass_of_methodNamed B.named
  have hlocks := B.notSynchronized
  have hF : CallFix p m c c_Mo_copy 12 s _ tpG R_Mo := ⟨hx, hb, hml, hown, hts⟩
  have hF2 : tp_F p m c c_Mo_copy 12 s _ tpG R_Mo meth none := ⟨hF, hr, hlocks⟩
  have hl := lv_entry ([.ref q_j, .int x1, .int x2, .int x3, .int x4, .long x5]) (n := 12) (Nat.le_of_ble_eq_true rfl)
  rw [lg_entry_eq]
  generalize (lg_sl ([.ref q_j, .int x1, .int x2, .int x3, .int x4, .long x5]) ++ List.replicate (12 - (lg_sl ([.ref q_j, .int x1, .int x2, .int x3, .int x4, .long x5])).length) Slot.unset).toArray = ls at hl ⊢
  replace hl : lv_has ls 12 [(0, .ref q_j), (1, .int x1), (2, .int x2), (3, .int x3), (4, .int x4), (5, .long x5)] := hl
  unfold m_Mo_copy at hm
  refine lv_iload_n hx hb d_Mo_copy_0 rfl (lv_at hl 3 rfl) ?_
  refine lv_iconst (v := (1 : Int32)) hx hb d_Mo_copy_1 (by decide +kernel) ?_
  refine lv_icmp_ne (tgt := 16) hx hb d_Mo_copy_2 (by decide +kernel) (fun hc1 => ?_) (fun hc1 => ?_)
  · replace hm := tp_if hc1 hm
    refine lv_iload hx hb d_Mo_copy_16 (lv_at hl 4 rfl) ?_
    refine lv_iconst (v := (1 : Int32)) hx hb d_Mo_copy_18 (by decide +kernel) ?_
    refine lv_iadd hx hb d_Mo_copy_19 ?_
    refine lv_i2l (v := (Int32.toInt64 (x4 + (1 : Int32)))) hx hb d_Mo_copy_20 rfl ?_
    exact w_Mo_copy_21 hF2  _ _ _ _ _ _ _ _ _ _ _ _ _ _ hm hw (lv_sub hl [0, 1, 2, 3, 4, 5] rfl)
  · replace hm := tp_it hc1 hm
    refine lv_iload hx hb d_Mo_copy_5 (lv_at hl 4 rfl) ?_
    refine lv_bipush (v := (8 : Int32)) hx hb d_Mo_copy_7 (by decide +kernel) ?_
    refine lv_irem hx hb d_Mo_copy_9 (by decide +kernel) ?_
    refine lv_iconst (v := (4 : Int32)) hx hb d_Mo_copy_10 (by decide +kernel) ?_
    refine lv_iadd hx hb d_Mo_copy_11 ?_
    refine lv_i2l (v := (Int32.toInt64 ((x4 - x4 / (8 : Int32) * (8 : Int32)) + (4 : Int32)))) hx hb d_Mo_copy_12 rfl ?_
    refine lv_goto (tgt := 21) hx hb d_Mo_copy_13 (by decide +kernel) ?_
    exact w_Mo_copy_21 hF2  _ _ _ _ _ _ _ _ _ _ _ _ _ _ hm hw (lv_sub hl [0, 1, 2, 3, 4, 5] rfl)
end
abbrev rm_Mo_takeBlock : Room := { frames := 3, cells := 0, slots := 0, locals := 82 }
abbrev ws_Mo_takeBlock : List Cond := .code y_Mo_takeBlock c_Mo_takeBlock 7 none :: tpG
noncomputable def m_Mo_takeBlock_84 (N : Nat) (j_end : Int32) (ji_f : Nat → Int32) (x2 : Int32) (x3 : Int64) (j_made : Int32) (j_at : Int32) (j_fault : Int32) (j_fp : Int32) (jm_f : Nat → Int32) : Option (Int32 × Int32 × Int32 × Int32 × (Nat → Int32)) :=
  if j_fault = 0 then
    if 0 ≤ (lg_cmp (Int32.toInt64 (j_made - x2)) x3) then
      some (j_made, j_at, j_fault, j_fp, jm_f)
    else
      tp_b3 (m_Mo_fails (6 : Int32) j_end j_fault j_fp) fun r28 j_fault_29 j_fp_30 =>
      some (j_made, j_at, j_fault_29, j_fp_30, jm_f)
  else
    some (j_made, j_at, j_fault, j_fp, jm_f)
noncomputable def m_Mo_takeBlock_11 (N : Nat) (j_end : Int32) (ji_f : Nat → Int32) (rec11 : Int32 → Int64 → Int32 → Int32 → Int32 → Int32 → (Nat → Int32) → Option (Int32 × Int32 × Int32 × Int32 × (Nat → Int32))) (x2 : Int32) (x3 : Int64) (j_made : Int32) (j_at : Int32) (j_fault : Int32) (j_fp : Int32) (jm_f : Nat → Int32) : Option (Int32 × Int32 × Int32 × Int32 × (Nat → Int32)) :=
  if j_fault = 0 then
    if j_end ≤ j_at then
      m_Mo_takeBlock_84 N j_end ji_f  x2 x3 j_made j_at j_fault j_fp jm_f
    else
      tp_b4 (m_Mo_take N (1 : Int32) j_at j_end j_fault j_fp ji_f) fun r8 j_at_9 j_fault_10 j_fp_11 =>
      if ((Int64.toInt32 r8) - (Int64.toInt32 r8) / (4 : Int32) * (4 : Int32)) = 0 then
        tp_b5 (m_Mo_literals N j_at x2 ((Int64.toInt32 r8) / (4 : Int32)) x3 j_made j_at_9 j_end j_fault_10 j_fp_11 ji_f jm_f) fun j_made_20 j_at_21 j_fault_22 j_fp_23 jm_f_24 =>
        rec11 x2 x3 j_made_20 j_at_21 j_fault_22 j_fp_23 jm_f_24
      else
        tp_b5 (m_Mo_copy N j_at x2 ((Int64.toInt32 r8) - (Int64.toInt32 r8) / (4 : Int32) * (4 : Int32)) ((Int64.toInt32 r8) / (4 : Int32)) x3 j_made j_at_9 j_end j_fault_10 j_fp_11 ji_f jm_f) fun j_made_14 j_at_15 j_fault_16 j_fp_17 jm_f_18 =>
        rec11 x2 x3 j_made_14 j_at_15 j_fault_16 j_fp_17 jm_f_18
  else
    m_Mo_takeBlock_84 N j_end ji_f  x2 x3 j_made j_at j_fault j_fp jm_f
noncomputable def m_Mo_takeBlock (N : Nat) (x1 : Int32) (j_made : Int32) (j_at : Int32) (j_end : Int32) (j_fault : Int32) (j_fp : Int32) (ji_f : Nat → Int32) (jm_f : Nat → Int32) : Option (Int32 × Int32 × Int32 × Int32 × (Nat → Int32)) :=
  tp_b4 (m_Mo_takeLength N x1 j_at j_end j_fault j_fp ji_f) fun r1 j_at_2 j_fault_3 j_fp_4 =>
  tp_it7 (m_Mo_takeBlock_11 N j_end ji_f ) N j_made r1 j_made j_at_2 j_fault_3 j_fp_4 jm_f
section
variable {p : Program} {l : Launch} {e : Env} {s : State} {m : MethodId} {args : Array Value} {below : List Frame} {meth : Method} {c : Code} {A : Nat → Prop} {D : va_G} {cB cI : ClassId} {tM : Nat}
set_option maxHeartbeats 4000000 in
set_option maxRecDepth 100000 in
theorem w_Mo_takeBlock_84 {q_j q_ji q_jo q_jm q_jn q_jf : Nat} {j_in : Int32} {j_out : Int32} {j_known : Int32} {j_fat : Int32} {j_flong : Int32} {j_told : Int32} {j_end : Int32} {ji_f : Nat → Int32} {jo_f : Nat → Int32} {jn_f : Nat → Int32} {jf_f : Nat → Int32} {N : Nat} {j_made' : Int32} {j_at' : Int32} {j_fault' : Int32} {j_fp' : Int32} {jm_f' : Nat → Int32} (hF2 : tp_F p m c c_Mo_takeBlock 7 s args tpG R_Mo meth none) : ∀ (x2 : Int32) (x3 : Int64) (j_made : Int32) (j_at : Int32) (j_fault : Int32) (j_fp : Int32) (jm_f : Nat → Int32) (H : Heap) (locs : List Loc) (ls : Array Slot), m_Mo_takeBlock_84 N j_end ji_f  x2 x3 j_made j_at j_fault j_fp jm_f = some (j_made', j_at', j_fault', j_fp', jm_f') → tp_Wd D (tp_ty cB cI) tM A s H locs [(q_j, .inr (7, [.ref q_ji, .int j_in, .ref q_jo, .int j_out, .ref q_jm, .int j_made, .ref q_jn, .ref q_jf, .int j_known, .int j_fat, .int j_flong, .int j_told, .int j_at, .int j_end, .int j_fault, .int j_fp])), (q_ji, .inl (cB, 10000, .inl ji_f)), (q_jo, .inl (cB, 10000, .inl jo_f)), (q_jm, .inl (cB, 20000, .inl jm_f)), (q_jn, .inl (cI, 10001, .inl jn_f)), (q_jf, .inl (cI, 10001, .inl jf_f))] → lv_has ls 7 [(0, .ref q_j), (2, .int x2), (3, .long x3)] → W p l e rm_Mo_takeBlock s m args below meth c H locs 0 0 (MQ below (tp_Qv (S := Unit) D A (fun _ => [(q_j, .inr (7, [.ref q_ji, .int j_in, .ref q_jo, .int j_out, .ref q_jm, .int j_made', .ref q_jn, .ref q_jf, .int j_known, .int j_fat, .int j_flong, .int j_told, .int j_at', .int j_end, .int j_fault', .int j_fp'])), (q_ji, .inl (cB, 10000, .inl ji_f)), (q_jo, .inl (cB, 10000, .inl jo_f)), (q_jm, .inl (cB, 20000, .inl jm_f')), (q_jn, .inl (cI, 10001, .inl jn_f)), (q_jf, .inl (cI, 10001, .inl jf_f))])) args s 0 0 A) (F0 m 84 ls []) := by
  obtain ⟨hF, hr, hlocks⟩ := id hF2
  obtain ⟨hx, hb, hml, hown, hts⟩ := id hF
  intro x2 x3 j_made j_at j_fault j_fp jm_f H locs ls hm hw hl
  unfold m_Mo_takeBlock_84 at hm
  refine lv_aload_n hx hb d_Mo_takeBlock_84 rfl (lv_at hl 0 rfl) ?_
  refine tp_get (v := .int j_fault) (C := R_Mo) (T := T_Mo) hx hb hts fw_Mo hown hw 0 rfl rfl 14 (by decide +kernel) (hts _ wd_402) rfl d_Mo_takeBlock_85 ?_
  refine lv_if_ne (tgt := 114) hx hb d_Mo_takeBlock_88 (by decide +kernel) (fun hc26 => ?_) (fun hc26 => ?_)
  · replace hm := tp_if hc26 hm
    obtain ⟨rfl, rfl, rfl, rfl, rfl⟩ := tp_inj5 hm
    exact tp_vret () hx hb hr hlocks hw d_Mo_takeBlock_114
  · replace hm := tp_it hc26 hm
    refine lv_aload_n hx hb d_Mo_takeBlock_91 rfl (lv_at hl 0 rfl) ?_
    refine tp_get (v := .int j_made) (C := R_Mo) (T := T_Mo) hx hb hts fw_Mo hown hw 0 rfl rfl 5 (by decide +kernel) (hts _ wd_337) rfl d_Mo_takeBlock_92 ?_
    refine lv_iload_n hx hb d_Mo_takeBlock_95 rfl (lv_at hl 1 rfl) ?_
    refine lv_isub hx hb d_Mo_takeBlock_96 ?_
    refine lv_i2l (v := (Int32.toInt64 (j_made - x2))) hx hb d_Mo_takeBlock_97 rfl ?_
    refine lv_lload_n hx hb d_Mo_takeBlock_98 rfl (lv_at hl 2 rfl) ?_
    refine W.lcmp hx hb d_Mo_takeBlock_99 ?_
    refine lv_if_ge (tgt := 114) hx hb d_Mo_takeBlock_100 (by decide +kernel) (fun hc27 => ?_) (fun hc27 => ?_)
    · replace hm := tp_it hc27 hm
      obtain ⟨rfl, rfl, rfl, rfl, rfl⟩ := tp_inj5 hm
      exact tp_vret () hx hb hr hlocks hw d_Mo_takeBlock_114
    · replace hm := tp_if hc27 hm
      refine lv_aload_n hx hb d_Mo_takeBlock_103 rfl (lv_at hl 0 rfl) ?_
      refine lv_bipush (v := (6 : Int32)) hx hb d_Mo_takeBlock_104 (by decide +kernel) ?_
      refine lv_aload_n hx hb d_Mo_takeBlock_106 rfl (lv_at hl 0 rfl) ?_
      refine tp_get (v := .int j_end) (C := R_Mo) (T := T_Mo) hx hb hts fw_Mo hown hw 0 rfl rfl 13 (by decide +kernel) (hts _ wd_406) rfl d_Mo_takeBlock_107 ?_
      obtain ⟨r28, j_fault_29, j_fp_30, hm31, hm⟩ := tp_b3_e hm
      refine tp_calli (wr := []) (WS' := [(q_j, .inr (7, [.ref q_ji, .int j_in, .ref q_jo, .int j_out, .ref q_jm, .int j_made, .ref q_jn, .ref q_jf, .int j_known, .int j_fat, .int j_flong, .int j_told, .int j_at, .int j_end, .int j_fault_29, .int j_fp_30])), (q_ji, .inl (cB, 10000, .inl ji_f)), (q_jo, .inl (cB, 10000, .inl jo_f)), (q_jm, .inl (cB, 20000, .inl jm_f)), (q_jn, .inl (cI, 10001, .inl jn_f)), (q_jf, .inl (cI, 10001, .inl jf_f))]) (va_runV (As := [.int (6 : Int32), .int j_end]) (rest := []) hF (ct_Mo_fails (l := l) (D := D) (cB := cB) (cI := cI) (tM := tM) (q_j := q_j) (q_ji := q_ji) (q_jo := q_jo) (q_jm := q_jm) (q_jn := q_jn) (q_jf := q_jf) (j_in := j_in) (j_out := j_out) (j_made := j_made) (j_known := j_known) (j_fat := j_fat) (j_flong := j_flong) (j_told := j_told) (j_at := j_at) (j_end := j_end) (j_fault := j_fault) (j_fp := j_fp) (ji_f := ji_f) (jo_f := jo_f) (jm_f := jm_f) (jn_f := jn_f) (jf_f := jf_f) (x1 := (6 : Int32)) (x2 := j_end) (r := r28) (j_fault' := j_fault_29) (j_fp' := j_fp_30) hm31 _) (cwV 2 hts (tpG_V wd_409 wd_410 wd_411 wd_340 wd_408) rfl rfl rfl ⟨rfl, yd_Mo_fails⟩ ⟨Nat.le_of_ble_eq_true rfl, Nat.le_of_ble_eq_true rfl⟩) ⟨tp_blind, va_recv hw.1 hw.2.1 (ci := 7) (q0 := 0) rfl rfl, tp_pre hw [0, 1, 2, 3, 4, 5] rfl rfl⟩ rfl rfl hl.1 rfl (lv_room (Nat.le_of_ble_eq_true rfl)) d_Mo_takeBlock_110 ⟨Nat.le_of_ble_eq_true rfl, Nat.le_of_ble_eq_true rfl⟩) hw [0, 1, 2, 3, 4, 5] [] [0, 1, 2, 3, 4, 5] rfl rfl rfl (by decide) rfl rfl (fun H locs hw => ?_)
      refine lv_pop hx hb d_Mo_takeBlock_113 rfl ?_
      obtain ⟨rfl, rfl, rfl, rfl, rfl⟩ := tp_inj5 hm
      exact tp_vret () hx hb hr hlocks hw d_Mo_takeBlock_114
set_option maxHeartbeats 4000000 in
set_option maxRecDepth 100000 in
theorem w_Mo_takeBlock_11 {q_j q_ji q_jo q_jm q_jn q_jf : Nat} {j_in : Int32} {j_out : Int32} {j_known : Int32} {j_fat : Int32} {j_flong : Int32} {j_told : Int32} {j_end : Int32} {ji_f : Nat → Int32} {jo_f : Nat → Int32} {jn_f : Nat → Int32} {jf_f : Nat → Int32} {N : Nat} {j_made' : Int32} {j_at' : Int32} {j_fault' : Int32} {j_fp' : Int32} {jm_f' : Nat → Int32} (hF2 : tp_F p m c c_Mo_takeBlock 7 s args tpG R_Mo meth none) : ∀ (n : Nat), ∀ (x2 : Int32) (x3 : Int64) (j_made : Int32) (j_at : Int32) (j_fault : Int32) (j_fp : Int32) (jm_f : Nat → Int32) (H : Heap) (locs : List Loc) (ls : Array Slot), tp_it7 (m_Mo_takeBlock_11 N j_end ji_f ) n x2 x3 j_made j_at j_fault j_fp jm_f = some (j_made', j_at', j_fault', j_fp', jm_f') → tp_Wd D (tp_ty cB cI) tM A s H locs [(q_j, .inr (7, [.ref q_ji, .int j_in, .ref q_jo, .int j_out, .ref q_jm, .int j_made, .ref q_jn, .ref q_jf, .int j_known, .int j_fat, .int j_flong, .int j_told, .int j_at, .int j_end, .int j_fault, .int j_fp])), (q_ji, .inl (cB, 10000, .inl ji_f)), (q_jo, .inl (cB, 10000, .inl jo_f)), (q_jm, .inl (cB, 20000, .inl jm_f)), (q_jn, .inl (cI, 10001, .inl jn_f)), (q_jf, .inl (cI, 10001, .inl jf_f))] → lv_has ls 7 [(0, .ref q_j), (2, .int x2), (3, .long x3)] → W p l e rm_Mo_takeBlock s m args below meth c H locs 0 0 (MQ below (tp_Qv (S := Unit) D A (fun _ => [(q_j, .inr (7, [.ref q_ji, .int j_in, .ref q_jo, .int j_out, .ref q_jm, .int j_made', .ref q_jn, .ref q_jf, .int j_known, .int j_fat, .int j_flong, .int j_told, .int j_at', .int j_end, .int j_fault', .int j_fp'])), (q_ji, .inl (cB, 10000, .inl ji_f)), (q_jo, .inl (cB, 10000, .inl jo_f)), (q_jm, .inl (cB, 20000, .inl jm_f')), (q_jn, .inl (cI, 10001, .inl jn_f)), (q_jf, .inl (cI, 10001, .inl jf_f))])) args s 0 0 A) (F0 m 11 ls []) := by
  obtain ⟨hF, hr, hlocks⟩ := id hF2
  obtain ⟨hx, hb, hml, hown, hts⟩ := id hF
  intro n
  induction n with
  | zero => intro x2 x3 j_made j_at j_fault j_fp jm_f H locs ls hm; exact absurd hm (by simp [tp_it7])
  | succ n ih11 =>
    intro x2 x3 j_made j_at j_fault j_fp jm_f H locs ls hm hw hl
    replace hm : m_Mo_takeBlock_11 N j_end ji_f  (tp_it7 (m_Mo_takeBlock_11 N j_end ji_f ) n) x2 x3 j_made j_at j_fault j_fp jm_f = some (j_made', j_at', j_fault', j_fp', jm_f') := hm
    unfold m_Mo_takeBlock_11 at hm
    refine lv_aload_n hx hb d_Mo_takeBlock_11 rfl (lv_at hl 0 rfl) ?_
    refine tp_get (v := .int j_fault) (C := R_Mo) (T := T_Mo) hx hb hts fw_Mo hown hw 0 rfl rfl 14 (by decide +kernel) (hts _ wd_402) rfl d_Mo_takeBlock_12 ?_
    refine lv_if_ne (tgt := 84) hx hb d_Mo_takeBlock_15 (by decide +kernel) (fun hc6 => ?_) (fun hc6 => ?_)
    · replace hm := tp_if hc6 hm
      exact w_Mo_takeBlock_84 hF2  _ _ _ _ _ _ _ _ _ _ hm hw (lv_sub hl [0, 1, 2] rfl)
    · replace hm := tp_it hc6 hm
      refine lv_aload_n hx hb d_Mo_takeBlock_18 rfl (lv_at hl 0 rfl) ?_
      refine tp_get (v := .int j_at) (C := R_Mo) (T := T_Mo) hx hb hts fw_Mo hown hw 0 rfl rfl 12 (by decide +kernel) (hts _ wd_405) rfl d_Mo_takeBlock_19 ?_
      refine lv_aload_n hx hb d_Mo_takeBlock_22 rfl (lv_at hl 0 rfl) ?_
      refine tp_get (v := .int j_end) (C := R_Mo) (T := T_Mo) hx hb hts fw_Mo hown hw 0 rfl rfl 13 (by decide +kernel) (hts _ wd_406) rfl d_Mo_takeBlock_23 ?_
      refine lv_icmp_ge (tgt := 84) hx hb d_Mo_takeBlock_26 (by decide +kernel) (fun hc7 => ?_) (fun hc7 => ?_)
      · replace hm := tp_it hc7 hm
        exact w_Mo_takeBlock_84 hF2  _ _ _ _ _ _ _ _ _ _ hm hw (lv_sub hl [0, 1, 2] rfl)
      · replace hm := tp_if hc7 hm
        refine lv_aload_n hx hb d_Mo_takeBlock_29 rfl (lv_at hl 0 rfl) ?_
        refine tp_get (v := .int j_at) (C := R_Mo) (T := T_Mo) hx hb hts fw_Mo hown hw 0 rfl rfl 12 (by decide +kernel) (hts _ wd_405) rfl d_Mo_takeBlock_30 ?_
        refine lv_istore (lv' := [(5, .int j_at), (0, .ref q_j), (2, .int x2), (3, .long x3)]) hx hb d_Mo_takeBlock_33 hl (by decide +kernel) rfl (fun ls hl => ?_)
        refine lv_aload_n hx hb d_Mo_takeBlock_35 rfl (lv_at hl 1 rfl) ?_
        refine lv_iconst (v := (1 : Int32)) hx hb d_Mo_takeBlock_36 (by decide +kernel) ?_
        obtain ⟨r8, j_at_9, j_fault_10, j_fp_11, hm12, hm⟩ := tp_b4_e hm
        refine tp_calll (wr := []) (WS' := [(q_j, .inr (7, [.ref q_ji, .int j_in, .ref q_jo, .int j_out, .ref q_jm, .int j_made, .ref q_jn, .ref q_jf, .int j_known, .int j_fat, .int j_flong, .int j_told, .int j_at_9, .int j_end, .int j_fault_10, .int j_fp_11])), (q_ji, .inl (cB, 10000, .inl ji_f)), (q_jo, .inl (cB, 10000, .inl jo_f)), (q_jm, .inl (cB, 20000, .inl jm_f)), (q_jn, .inl (cI, 10001, .inl jn_f)), (q_jf, .inl (cI, 10001, .inl jf_f))]) (va_runV (As := [.int (1 : Int32)]) (rest := []) hF (ct_Mo_take (l := l) (D := D) (cB := cB) (cI := cI) (tM := tM) (q_j := q_j) (q_ji := q_ji) (q_jo := q_jo) (q_jm := q_jm) (q_jn := q_jn) (q_jf := q_jf) (j_in := j_in) (j_out := j_out) (j_made := j_made) (j_known := j_known) (j_fat := j_fat) (j_flong := j_flong) (j_told := j_told) (j_at := j_at) (j_end := j_end) (j_fault := j_fault) (j_fp := j_fp) (ji_f := ji_f) (jo_f := jo_f) (jm_f := jm_f) (jn_f := jn_f) (jf_f := jf_f) (x1 := (1 : Int32)) (N := N) (r := r8) (j_at' := j_at_9) (j_fault' := j_fault_10) (j_fp' := j_fp_11) hm12 _) (cwV 1 hts (tpG_V wd_413 wd_414 wd_415 wd_340 wd_412) rfl rfl rfl ⟨rfl, yd_Mo_take⟩ ⟨Nat.le_of_ble_eq_true rfl, Nat.le_of_ble_eq_true rfl⟩) ⟨tp_blind, va_recv hw.1 hw.2.1 (ci := 7) (q0 := 0) rfl rfl, tp_pre hw [0, 1, 2, 3, 4, 5] rfl rfl⟩ rfl rfl hl.1 rfl (lv_room (Nat.le_of_ble_eq_true rfl)) d_Mo_takeBlock_37 ⟨Nat.le_of_ble_eq_true rfl, Nat.le_of_ble_eq_true rfl⟩) hw [0, 1, 2, 3, 4, 5] [] [0, 1, 2, 3, 4, 5] rfl rfl rfl (by decide) rfl rfl (fun H locs hw => ?_)
        refine lv_l2i (v := (Int64.toInt32 r8)) hx hb d_Mo_takeBlock_40 rfl ?_
        refine lv_istore (lv' := [(6, .int (Int64.toInt32 r8)), (5, .int j_at), (0, .ref q_j), (2, .int x2), (3, .long x3)]) hx hb d_Mo_takeBlock_41 hl (by decide +kernel) rfl (fun ls hl => ?_)
        refine lv_iload hx hb d_Mo_takeBlock_43 (lv_at hl 0 rfl) ?_
        refine lv_iconst (v := (4 : Int32)) hx hb d_Mo_takeBlock_45 (by decide +kernel) ?_
        refine lv_irem hx hb d_Mo_takeBlock_46 (by decide +kernel) ?_
        refine lv_if_ne (tgt := 65) hx hb d_Mo_takeBlock_47 (by decide +kernel) (fun hc13 => ?_) (fun hc13 => ?_)
        · replace hm := tp_if hc13 hm
          refine lv_aload_n hx hb d_Mo_takeBlock_65 rfl (lv_at hl 2 rfl) ?_
          refine lv_iload hx hb d_Mo_takeBlock_66 (lv_at hl 1 rfl) ?_
          refine lv_iload_n hx hb d_Mo_takeBlock_68 rfl (lv_at hl 3 rfl) ?_
          refine lv_iload hx hb d_Mo_takeBlock_69 (lv_at hl 0 rfl) ?_
          refine lv_iconst (v := (4 : Int32)) hx hb d_Mo_takeBlock_71 (by decide +kernel) ?_
          refine lv_irem hx hb d_Mo_takeBlock_72 (by decide +kernel) ?_
          refine lv_iload hx hb d_Mo_takeBlock_73 (lv_at hl 0 rfl) ?_
          refine lv_iconst (v := (4 : Int32)) hx hb d_Mo_takeBlock_75 (by decide +kernel) ?_
          refine lv_idiv hx hb d_Mo_takeBlock_76 (by decide +kernel) ?_
          refine lv_lload_n hx hb d_Mo_takeBlock_77 rfl (lv_at hl 4 rfl) ?_
          obtain ⟨j_made_14, j_at_15, j_fault_16, j_fp_17, jm_f_18, hm19, hm⟩ := tp_b5_e hm
          refine tp_callv (wr := []) (WS' := [(q_j, .inr (7, [.ref q_ji, .int j_in, .ref q_jo, .int j_out, .ref q_jm, .int j_made_14, .ref q_jn, .ref q_jf, .int j_known, .int j_fat, .int j_flong, .int j_told, .int j_at_15, .int j_end, .int j_fault_16, .int j_fp_17])), (q_ji, .inl (cB, 10000, .inl ji_f)), (q_jo, .inl (cB, 10000, .inl jo_f)), (q_jm, .inl (cB, 20000, .inl jm_f_18)), (q_jn, .inl (cI, 10001, .inl jn_f)), (q_jf, .inl (cI, 10001, .inl jf_f))]) (va_runV (As := [.int j_at, .int x2, .int ((Int64.toInt32 r8) - (Int64.toInt32 r8) / (4 : Int32) * (4 : Int32)), .int ((Int64.toInt32 r8) / (4 : Int32)), .long x3]) (rest := []) hF (ct_Mo_copy (l := l) (D := D) (cB := cB) (cI := cI) (tM := tM) (q_j := q_j) (q_ji := q_ji) (q_jo := q_jo) (q_jm := q_jm) (q_jn := q_jn) (q_jf := q_jf) (j_in := j_in) (j_out := j_out) (j_made := j_made) (j_known := j_known) (j_fat := j_fat) (j_flong := j_flong) (j_told := j_told) (j_at := j_at_9) (j_end := j_end) (j_fault := j_fault_10) (j_fp := j_fp_11) (ji_f := ji_f) (jo_f := jo_f) (jm_f := jm_f) (jn_f := jn_f) (jf_f := jf_f) (x1 := j_at) (x2 := x2) (x3 := ((Int64.toInt32 r8) - (Int64.toInt32 r8) / (4 : Int32) * (4 : Int32))) (x4 := ((Int64.toInt32 r8) / (4 : Int32))) (x5 := x3) (N := N) (j_made' := j_made_14) (j_at' := j_at_15) (j_fault' := j_fault_16) (j_fp' := j_fp_17) (jm_f' := jm_f_18) hm19 _) (cwV 5 hts (tpG_V wd_429 wd_430 wd_431 wd_340 wd_428) rfl rfl rfl ⟨rfl, yd_Mo_copy⟩ ⟨Nat.le_of_ble_eq_true rfl, Nat.le_of_ble_eq_true rfl⟩) ⟨tp_blind, va_recv hw.1 hw.2.1 (ci := 7) (q0 := 0) rfl rfl, tp_pre hw [0, 1, 2, 3, 4, 5] rfl rfl⟩ rfl rfl hl.1 rfl (lv_room (Nat.le_of_ble_eq_true rfl)) d_Mo_takeBlock_78 ⟨Nat.le_of_ble_eq_true rfl, Nat.le_of_ble_eq_true rfl⟩) hw [0, 1, 2, 3, 4, 5] [] [0, 1, 2, 3, 4, 5] rfl rfl rfl (by decide) rfl rfl (fun H locs hw => ?_)
          refine lv_goto (tgt := 11) hx hb d_Mo_takeBlock_81 (by decide +kernel) ?_
          exact ih11 _ _ _ _ _ _ _ _ _ _ hm hw (lv_sub hl [2, 3, 4] rfl)
        · replace hm := tp_it hc13 hm
          refine lv_aload_n hx hb d_Mo_takeBlock_50 rfl (lv_at hl 2 rfl) ?_
          refine lv_iload hx hb d_Mo_takeBlock_51 (lv_at hl 1 rfl) ?_
          refine lv_iload_n hx hb d_Mo_takeBlock_53 rfl (lv_at hl 3 rfl) ?_
          refine lv_iload hx hb d_Mo_takeBlock_54 (lv_at hl 0 rfl) ?_
          refine lv_iconst (v := (4 : Int32)) hx hb d_Mo_takeBlock_56 (by decide +kernel) ?_
          refine lv_idiv hx hb d_Mo_takeBlock_57 (by decide +kernel) ?_
          refine lv_lload_n hx hb d_Mo_takeBlock_58 rfl (lv_at hl 4 rfl) ?_
          obtain ⟨j_made_20, j_at_21, j_fault_22, j_fp_23, jm_f_24, hm25, hm⟩ := tp_b5_e hm
          refine tp_callv (wr := []) (WS' := [(q_j, .inr (7, [.ref q_ji, .int j_in, .ref q_jo, .int j_out, .ref q_jm, .int j_made_20, .ref q_jn, .ref q_jf, .int j_known, .int j_fat, .int j_flong, .int j_told, .int j_at_21, .int j_end, .int j_fault_22, .int j_fp_23])), (q_ji, .inl (cB, 10000, .inl ji_f)), (q_jo, .inl (cB, 10000, .inl jo_f)), (q_jm, .inl (cB, 20000, .inl jm_f_24)), (q_jn, .inl (cI, 10001, .inl jn_f)), (q_jf, .inl (cI, 10001, .inl jf_f))]) (va_runV (As := [.int j_at, .int x2, .int ((Int64.toInt32 r8) / (4 : Int32)), .long x3]) (rest := []) hF (ct_Mo_literals (l := l) (D := D) (cB := cB) (cI := cI) (tM := tM) (q_j := q_j) (q_ji := q_ji) (q_jo := q_jo) (q_jm := q_jm) (q_jn := q_jn) (q_jf := q_jf) (j_in := j_in) (j_out := j_out) (j_made := j_made) (j_known := j_known) (j_fat := j_fat) (j_flong := j_flong) (j_told := j_told) (j_at := j_at_9) (j_end := j_end) (j_fault := j_fault_10) (j_fp := j_fp_11) (ji_f := ji_f) (jo_f := jo_f) (jm_f := jm_f) (jn_f := jn_f) (jf_f := jf_f) (x1 := j_at) (x2 := x2) (x3 := ((Int64.toInt32 r8) / (4 : Int32))) (x4 := x3) (N := N) (j_made' := j_made_20) (j_at' := j_at_21) (j_fault' := j_fault_22) (j_fp' := j_fp_23) (jm_f' := jm_f_24) hm25 _) (cwV 4 hts (tpG_V wd_433 wd_434 wd_435 wd_340 wd_432) rfl rfl rfl ⟨rfl, yd_Mo_literals⟩ ⟨Nat.le_of_ble_eq_true rfl, Nat.le_of_ble_eq_true rfl⟩) ⟨tp_blind, va_recv hw.1 hw.2.1 (ci := 7) (q0 := 0) rfl rfl, tp_pre hw [0, 1, 2, 3, 4, 5] rfl rfl⟩ rfl rfl hl.1 rfl (lv_room (Nat.le_of_ble_eq_true rfl)) d_Mo_takeBlock_59 ⟨Nat.le_of_ble_eq_true rfl, Nat.le_of_ble_eq_true rfl⟩) hw [0, 1, 2, 3, 4, 5] [] [0, 1, 2, 3, 4, 5] rfl rfl rfl (by decide) rfl rfl (fun H locs hw => ?_)
          refine lv_goto (tgt := 81) hx hb d_Mo_takeBlock_62 (by decide +kernel) ?_
          refine lv_goto (tgt := 11) hx hb d_Mo_takeBlock_81 (by decide +kernel) ?_
          exact ih11 _ _ _ _ _ _ _ _ _ _ hm hw (lv_sub hl [2, 3, 4] rfl)
set_option maxHeartbeats 4000000 in
set_option maxRecDepth 100000 in
theorem ct_Mo_takeBlock {q_j q_ji q_jo q_jm q_jn q_jf : Nat} {j_in : Int32} {j_out : Int32} {j_made : Int32} {j_known : Int32} {j_fat : Int32} {j_flong : Int32} {j_told : Int32} {j_at : Int32} {j_end : Int32} {j_fault : Int32} {j_fp : Int32} {ji_f : Nat → Int32} {jo_f : Nat → Int32} {jm_f : Nat → Int32} {jn_f : Nat → Int32} {jf_f : Nat → Int32} {N : Nat} {x1 : Int32} {j_made' : Int32} {j_at' : Int32} {j_fault' : Int32} {j_fp' : Int32} {jm_f' : Nat → Int32} (hm : m_Mo_takeBlock N x1 j_made j_at j_end j_fault j_fp ji_f jm_f = some (j_made', j_at', j_fault', j_fp', jm_f')) (sz : Nat) : tp_Cv l y_Mo_takeBlock ws_Mo_takeBlock rm_Mo_takeBlock D (tp_ty cB cI) tM [.ref q_j, .int x1] [(q_j, .inr (7, [.ref q_ji, .int j_in, .ref q_jo, .int j_out, .ref q_jm, .int j_made, .ref q_jn, .ref q_jf, .int j_known, .int j_fat, .int j_flong, .int j_told, .int j_at, .int j_end, .int j_fault, .int j_fp])), (q_ji, .inl (cB, 10000, .inl ji_f)), (q_jo, .inl (cB, 10000, .inl jo_f)), (q_jm, .inl (cB, 20000, .inl jm_f)), (q_jn, .inl (cI, 10001, .inl jn_f)), (q_jf, .inl (cI, 10001, .inl jf_f))] sz [(q_j, .inr (7, [.ref q_ji, .int j_in, .ref q_jo, .int j_out, .ref q_jm, .int j_made', .ref q_jn, .ref q_jf, .int j_known, .int j_fat, .int j_flong, .int j_told, .int j_at', .int j_end, .int j_fault', .int j_fp'])), (q_ji, .inl (cB, 10000, .inl ji_f)), (q_jo, .inl (cB, 10000, .inl jo_f)), (q_jm, .inl (cB, 20000, .inl jm_f')), (q_jn, .inl (cI, 10001, .inl jn_f)), (q_jf, .inl (cI, 10001, .inl jf_f))] := by
  refine Met.ofW (cc := c_Mo_takeBlock) (maxL := 7) (ret := none) (by decide) rfl ?_
  intro p e s m args below meth c s₁ B hml hv
  obtain ⟨rfl, hv⟩ := hv
  have hw := tp_entry hv
  generalize va_A [(q_j, .inr (7, [.ref q_ji, .int j_in, .ref q_jo, .int j_out, .ref q_jm, .int j_made, .ref q_jn, .ref q_jf, .int j_known, .int j_fat, .int j_flong, .int j_told, .int j_at, .int j_end, .int j_fault, .int j_fp])), (q_ji, .inl (cB, 10000, .inl ji_f)), (q_jo, .inl (cB, 10000, .inl jo_f)), (q_jm, .inl (cB, 20000, .inl jm_f)), (q_jn, .inl (cI, 10001, .inl jn_f)), (q_jf, .inl (cI, 10001, .inl jf_f))] sz = A at hw ⊢
  have hx := B.exec
  have hb := B.bytes
  have hr := B.returns
  have hts0 := atoms_spec (ws := ws_Mo_takeBlock) B.pre
  have hts := fun w h => hts0 w (List.mem_cons_of_mem _ h)
  have hown : s.vm.findClass R_Mo = some m.cls := findClass_of_methodNamed B.named
  have hlocks := B.notSynchronized
  have hF : CallFix p m c c_Mo_takeBlock 7 s _ tpG R_Mo := ⟨hx, hb, hml, hown, hts⟩
  have hF2 : tp_F p m c c_Mo_takeBlock 7 s _ tpG R_Mo meth none := ⟨hF, hr, hlocks⟩
  have hl := lv_entry ([.ref q_j, .int x1]) (n := 7) (Nat.le_of_ble_eq_true rfl)
  rw [lg_entry_eq]
  generalize (lg_sl ([.ref q_j, .int x1]) ++ List.replicate (7 - (lg_sl ([.ref q_j, .int x1])).length) Slot.unset).toArray = ls at hl ⊢
  replace hl : lv_has ls 7 [(0, .ref q_j), (1, .int x1)] := hl
  unfold m_Mo_takeBlock at hm
  refine lv_aload_n hx hb d_Mo_takeBlock_0 rfl (lv_at hl 0 rfl) ?_
  refine tp_get (v := .int j_made) (C := R_Mo) (T := T_Mo) hx hb hts fw_Mo hown hw 0 rfl rfl 5 (by decide +kernel) (hts _ wd_337) rfl d_Mo_takeBlock_1 ?_
  refine lv_istore_n (lv' := [(2, .int j_made), (0, .ref q_j), (1, .int x1)]) hx hb d_Mo_takeBlock_4 rfl hl (by decide +kernel) rfl (fun ls hl => ?_)
  refine lv_aload_n hx hb d_Mo_takeBlock_5 rfl (lv_at hl 1 rfl) ?_
  refine lv_iload_n hx hb d_Mo_takeBlock_6 rfl (lv_at hl 2 rfl) ?_
  obtain ⟨r1, j_at_2, j_fault_3, j_fp_4, hm5, hm⟩ := tp_b4_e hm
  refine tp_calll (wr := []) (WS' := [(q_j, .inr (7, [.ref q_ji, .int j_in, .ref q_jo, .int j_out, .ref q_jm, .int j_made, .ref q_jn, .ref q_jf, .int j_known, .int j_fat, .int j_flong, .int j_told, .int j_at_2, .int j_end, .int j_fault_3, .int j_fp_4])), (q_ji, .inl (cB, 10000, .inl ji_f)), (q_jo, .inl (cB, 10000, .inl jo_f)), (q_jm, .inl (cB, 20000, .inl jm_f)), (q_jn, .inl (cI, 10001, .inl jn_f)), (q_jf, .inl (cI, 10001, .inl jf_f))]) (va_runV (As := [.int x1]) (rest := []) hF (ct_Mo_takeLength (l := l) (D := D) (cB := cB) (cI := cI) (tM := tM) (q_j := q_j) (q_ji := q_ji) (q_jo := q_jo) (q_jm := q_jm) (q_jn := q_jn) (q_jf := q_jf) (j_in := j_in) (j_out := j_out) (j_made := j_made) (j_known := j_known) (j_fat := j_fat) (j_flong := j_flong) (j_told := j_told) (j_at := j_at) (j_end := j_end) (j_fault := j_fault) (j_fp := j_fp) (ji_f := ji_f) (jo_f := jo_f) (jm_f := jm_f) (jn_f := jn_f) (jf_f := jf_f) (x1 := x1) (N := N) (r := r1) (j_at' := j_at_2) (j_fault' := j_fault_3) (j_fp' := j_fp_4) hm5 _) (cwV 1 hts (tpG_V wd_425 wd_426 wd_427 wd_340 wd_424) rfl rfl rfl ⟨rfl, yd_Mo_takeLength⟩ ⟨Nat.le_of_ble_eq_true rfl, Nat.le_of_ble_eq_true rfl⟩) ⟨tp_blind, va_recv hw.1 hw.2.1 (ci := 7) (q0 := 0) rfl rfl, tp_pre hw [0, 1, 2, 3, 4, 5] rfl rfl⟩ rfl rfl hl.1 rfl (lv_room (Nat.le_of_ble_eq_true rfl)) d_Mo_takeBlock_7 ⟨Nat.le_of_ble_eq_true rfl, Nat.le_of_ble_eq_true rfl⟩) hw [0, 1, 2, 3, 4, 5] [] [0, 1, 2, 3, 4, 5] rfl rfl rfl (by decide) rfl rfl (fun H locs hw => ?_)
  refine lv_lstore_n (lv' := [(3, .long r1), (2, .int j_made), (0, .ref q_j), (1, .int x1)]) hx hb d_Mo_takeBlock_10 rfl hl (by decide +kernel) rfl (fun ls hl => ?_)
  exact w_Mo_takeBlock_11 hF2  N _ _ _ _ _ _ _ _ _ _ hm hw (lv_sub hl [2, 1, 0] rfl)
end
abbrev rm_Mo_beginReading : Room := { frames := 0, cells := 0, slots := 0, locals := 0 }
abbrev ws_Mo_beginReading : List Cond := .code y_Mo_beginReading c_Mo_beginReading 1 none :: tpG
noncomputable def m_Mo_beginReading (j_in : Int32) (j_made : Int32) (j_at : Int32) (j_end : Int32) (j_fault : Int32) : Option (Int32 × Int32 × Int32 × Int32) :=
  some ((0 : Int32), (0 : Int32), j_in, (0 : Int32))
section
variable {p : Program} {l : Launch} {e : Env} {s : State} {m : MethodId} {args : Array Value} {below : List Frame} {meth : Method} {c : Code} {A : Nat → Prop} {D : va_G} {cB cI : ClassId} {tM : Nat}
set_option maxHeartbeats 4000000 in
set_option maxRecDepth 100000 in
theorem ct_Mo_beginReading {q_j q_ji q_jo q_jm q_jn q_jf : Nat} {j_in : Int32} {j_out : Int32} {j_made : Int32} {j_known : Int32} {j_fat : Int32} {j_flong : Int32} {j_told : Int32} {j_at : Int32} {j_end : Int32} {j_fault : Int32} {j_fp : Int32} {ji_f : Nat → Int32} {jo_f : Nat → Int32} {jm_f : Nat → Int32} {jn_f : Nat → Int32} {jf_f : Nat → Int32} {j_made' : Int32} {j_at' : Int32} {j_end' : Int32} {j_fault' : Int32} (hm : m_Mo_beginReading j_in j_made j_at j_end j_fault = some (j_made', j_at', j_end', j_fault')) (sz : Nat) : tp_Cv l y_Mo_beginReading ws_Mo_beginReading rm_Mo_beginReading D (tp_ty cB cI) tM [.ref q_j] [(q_j, .inr (7, [.ref q_ji, .int j_in, .ref q_jo, .int j_out, .ref q_jm, .int j_made, .ref q_jn, .ref q_jf, .int j_known, .int j_fat, .int j_flong, .int j_told, .int j_at, .int j_end, .int j_fault, .int j_fp])), (q_ji, .inl (cB, 10000, .inl ji_f)), (q_jo, .inl (cB, 10000, .inl jo_f)), (q_jm, .inl (cB, 20000, .inl jm_f)), (q_jn, .inl (cI, 10001, .inl jn_f)), (q_jf, .inl (cI, 10001, .inl jf_f))] sz [(q_j, .inr (7, [.ref q_ji, .int j_in, .ref q_jo, .int j_out, .ref q_jm, .int j_made', .ref q_jn, .ref q_jf, .int j_known, .int j_fat, .int j_flong, .int j_told, .int j_at', .int j_end', .int j_fault', .int j_fp])), (q_ji, .inl (cB, 10000, .inl ji_f)), (q_jo, .inl (cB, 10000, .inl jo_f)), (q_jm, .inl (cB, 20000, .inl jm_f)), (q_jn, .inl (cI, 10001, .inl jn_f)), (q_jf, .inl (cI, 10001, .inl jf_f))] := by
  refine Met.ofW (cc := c_Mo_beginReading) (maxL := 1) (ret := none) (by decide) rfl ?_
  intro p e s m args below meth c s₁ B hml hv
  obtain ⟨rfl, hv⟩ := hv
  have hw := tp_entry hv
  generalize va_A [(q_j, .inr (7, [.ref q_ji, .int j_in, .ref q_jo, .int j_out, .ref q_jm, .int j_made, .ref q_jn, .ref q_jf, .int j_known, .int j_fat, .int j_flong, .int j_told, .int j_at, .int j_end, .int j_fault, .int j_fp])), (q_ji, .inl (cB, 10000, .inl ji_f)), (q_jo, .inl (cB, 10000, .inl jo_f)), (q_jm, .inl (cB, 20000, .inl jm_f)), (q_jn, .inl (cI, 10001, .inl jn_f)), (q_jf, .inl (cI, 10001, .inl jf_f))] sz = A at hw ⊢
  have hx := B.exec
  have hb := B.bytes
  have hr := B.returns
  have hts0 := atoms_spec (ws := ws_Mo_beginReading) B.pre
  have hts := fun w h => hts0 w (List.mem_cons_of_mem _ h)
  have hown : s.vm.findClass R_Mo = some m.cls := findClass_of_methodNamed B.named
  have hlocks := B.notSynchronized
  have hF : CallFix p m c c_Mo_beginReading 1 s _ tpG R_Mo := ⟨hx, hb, hml, hown, hts⟩
  have hF2 : tp_F p m c c_Mo_beginReading 1 s _ tpG R_Mo meth none := ⟨hF, hr, hlocks⟩
  have hl := lv_entry ([.ref q_j]) (n := 1) (Nat.le_of_ble_eq_true rfl)
  rw [lg_entry_eq]
  generalize (lg_sl ([.ref q_j]) ++ List.replicate (1 - (lg_sl ([.ref q_j])).length) Slot.unset).toArray = ls at hl ⊢
  replace hl : lv_has ls 1 [(0, .ref q_j)] := hl
  unfold m_Mo_beginReading at hm
  refine lv_aload_n hx hb d_Mo_beginReading_0 rfl (lv_at hl 0 rfl) ?_
  refine lv_iconst (v := (0 : Int32)) hx hb d_Mo_beginReading_1 (by decide +kernel) ?_
  refine tp_put (v := .int (0 : Int32)) (C := R_Mo) (T := T_Mo) (WS' := [(q_j, .inr (7, [.ref q_ji, .int j_in, .ref q_jo, .int j_out, .ref q_jm, .int j_made, .ref q_jn, .ref q_jf, .int j_known, .int j_fat, .int j_flong, .int j_told, .int (0 : Int32), .int j_end, .int j_fault, .int j_fp])), (q_ji, .inl (cB, 10000, .inl ji_f)), (q_jo, .inl (cB, 10000, .inl jo_f)), (q_jm, .inl (cB, 20000, .inl jm_f)), (q_jn, .inl (cI, 10001, .inl jn_f)), (q_jf, .inl (cI, 10001, .inl jf_f))]) hx hb hts fw_Mo ty_Mo ty_Mo_ok nm_Mo hown hw 0 rfl rfl 12 (by decide +kernel) (hts _ wd_405) rfl rfl rfl (Nat.le_of_ble_eq_true rfl) rfl d_Mo_beginReading_2 (fun H locs hw => ?_)
  refine lv_aload_n hx hb d_Mo_beginReading_5 rfl (lv_at hl 0 rfl) ?_
  refine lv_aload_n hx hb d_Mo_beginReading_6 rfl (lv_at hl 0 rfl) ?_
  refine tp_get (v := .int j_in) (C := R_Mo) (T := T_Mo) hx hb hts fw_Mo hown hw 0 rfl rfl 1 (by decide +kernel) (hts _ wd_332) rfl d_Mo_beginReading_7 ?_
  refine tp_put (v := .int j_in) (C := R_Mo) (T := T_Mo) (WS' := [(q_j, .inr (7, [.ref q_ji, .int j_in, .ref q_jo, .int j_out, .ref q_jm, .int j_made, .ref q_jn, .ref q_jf, .int j_known, .int j_fat, .int j_flong, .int j_told, .int (0 : Int32), .int j_in, .int j_fault, .int j_fp])), (q_ji, .inl (cB, 10000, .inl ji_f)), (q_jo, .inl (cB, 10000, .inl jo_f)), (q_jm, .inl (cB, 20000, .inl jm_f)), (q_jn, .inl (cI, 10001, .inl jn_f)), (q_jf, .inl (cI, 10001, .inl jf_f))]) hx hb hts fw_Mo ty_Mo ty_Mo_ok nm_Mo hown hw 0 rfl rfl 13 (by decide +kernel) (hts _ wd_406) rfl rfl rfl (Nat.le_of_ble_eq_true rfl) rfl d_Mo_beginReading_10 (fun H locs hw => ?_)
  refine lv_aload_n hx hb d_Mo_beginReading_13 rfl (lv_at hl 0 rfl) ?_
  refine lv_iconst (v := (0 : Int32)) hx hb d_Mo_beginReading_14 (by decide +kernel) ?_
  refine tp_put (v := .int (0 : Int32)) (C := R_Mo) (T := T_Mo) (WS' := [(q_j, .inr (7, [.ref q_ji, .int j_in, .ref q_jo, .int j_out, .ref q_jm, .int j_made, .ref q_jn, .ref q_jf, .int j_known, .int j_fat, .int j_flong, .int j_told, .int (0 : Int32), .int j_in, .int (0 : Int32), .int j_fp])), (q_ji, .inl (cB, 10000, .inl ji_f)), (q_jo, .inl (cB, 10000, .inl jo_f)), (q_jm, .inl (cB, 20000, .inl jm_f)), (q_jn, .inl (cI, 10001, .inl jn_f)), (q_jf, .inl (cI, 10001, .inl jf_f))]) hx hb hts fw_Mo ty_Mo ty_Mo_ok nm_Mo hown hw 0 rfl rfl 14 (by decide +kernel) (hts _ wd_402) rfl rfl rfl (Nat.le_of_ble_eq_true rfl) rfl d_Mo_beginReading_15 (fun H locs hw => ?_)
  refine lv_aload_n hx hb d_Mo_beginReading_18 rfl (lv_at hl 0 rfl) ?_
  refine lv_iconst (v := (0 : Int32)) hx hb d_Mo_beginReading_19 (by decide +kernel) ?_
  refine tp_put (v := .int (0 : Int32)) (C := R_Mo) (T := T_Mo) (WS' := [(q_j, .inr (7, [.ref q_ji, .int j_in, .ref q_jo, .int j_out, .ref q_jm, .int (0 : Int32), .ref q_jn, .ref q_jf, .int j_known, .int j_fat, .int j_flong, .int j_told, .int (0 : Int32), .int j_in, .int (0 : Int32), .int j_fp])), (q_ji, .inl (cB, 10000, .inl ji_f)), (q_jo, .inl (cB, 10000, .inl jo_f)), (q_jm, .inl (cB, 20000, .inl jm_f)), (q_jn, .inl (cI, 10001, .inl jn_f)), (q_jf, .inl (cI, 10001, .inl jf_f))]) hx hb hts fw_Mo ty_Mo ty_Mo_ok nm_Mo hown hw 0 rfl rfl 5 (by decide +kernel) (hts _ wd_337) rfl rfl rfl (Nat.le_of_ble_eq_true rfl) rfl d_Mo_beginReading_20 (fun H locs hw => ?_)
  obtain ⟨rfl, rfl, rfl, rfl⟩ := tp_inj4 hm
  exact tp_vret () hx hb hr hlocks hw d_Mo_beginReading_23
end
abbrev rm_Mo_endReading : Room := { frames := 1, cells := 0, slots := 0, locals := 21 }
abbrev ws_Mo_endReading : List Cond := .code y_Mo_endReading c_Mo_endReading 1 (some .int) :: tpG
noncomputable def m_Mo_endReading_19 (N : Nat) (j_in : Int32) (j_made : Int32) (j_fault : Int32) (j_fp : Int32) (jm_f : Nat → Int32) (k1 : Int32) (j_out : Int32) (j_told : Int32) (jo_f : Nat → Int32) : Option (Int32 × Int32 × Int32 × (Nat → Int32)) :=
  if j_fault = 0 then
    tp_b3 (m_Mo_settle N j_out j_made jo_f jm_f) fun r3 j_out_4 jo_f_5 =>
    some (r3, j_out_4, k1, jo_f_5)
  else
    some ((-j_fault), j_out, k1, jo_f)
noncomputable def m_Mo_endReading (N : Nat) (j_in : Int32) (j_out : Int32) (j_made : Int32) (j_told : Int32) (j_fault : Int32) (j_fp : Int32) (jo_f : Nat → Int32) (jm_f : Nat → Int32) : Option (Int32 × Int32 × Int32 × (Nat → Int32)) :=
  if j_fault = 0 then
    m_Mo_endReading_19 N j_in j_made j_fault j_fp jm_f  j_in j_out j_told jo_f
  else
    m_Mo_endReading_19 N j_in j_made j_fault j_fp jm_f  j_fp j_out j_told jo_f
section
variable {p : Program} {l : Launch} {e : Env} {s : State} {m : MethodId} {args : Array Value} {below : List Frame} {meth : Method} {c : Code} {A : Nat → Prop} {D : va_G} {cB cI : ClassId} {tM : Nat}
set_option maxHeartbeats 4000000 in
set_option maxRecDepth 100000 in
theorem w_Mo_endReading_19 {q_j q_ji q_jo q_jm q_jn q_jf : Nat} {j_in : Int32} {j_made : Int32} {j_known : Int32} {j_fat : Int32} {j_flong : Int32} {j_at : Int32} {j_end : Int32} {j_fault : Int32} {j_fp : Int32} {ji_f : Nat → Int32} {jm_f : Nat → Int32} {jn_f : Nat → Int32} {jf_f : Nat → Int32} {N : Nat} {r : Int32} {j_out' : Int32} {j_told' : Int32} {jo_f' : Nat → Int32} (hF2 : tp_F p m c c_Mo_endReading 1 s args tpG R_Mo meth (some .int)) : ∀ (k1 : Int32) (j_out : Int32) (j_told : Int32) (jo_f : Nat → Int32) (H : Heap) (locs : List Loc) (ls : Array Slot), m_Mo_endReading_19 N j_in j_made j_fault j_fp jm_f  k1 j_out j_told jo_f = some (r, j_out', j_told', jo_f') → tp_Wd D (tp_ty cB cI) tM A s H locs [(q_j, .inr (7, [.ref q_ji, .int j_in, .ref q_jo, .int j_out, .ref q_jm, .int j_made, .ref q_jn, .ref q_jf, .int j_known, .int j_fat, .int j_flong, .int j_told, .int j_at, .int j_end, .int j_fault, .int j_fp])), (q_ji, .inl (cB, 10000, .inl ji_f)), (q_jo, .inl (cB, 10000, .inl jo_f)), (q_jm, .inl (cB, 20000, .inl jm_f)), (q_jn, .inl (cI, 10001, .inl jn_f)), (q_jf, .inl (cI, 10001, .inl jf_f))] → lv_has ls 1 [(0, .ref q_j)] → W p l e rm_Mo_endReading s m args below meth c H locs 0 0 (MQ below (tp_Qi D A r [(q_j, .inr (7, [.ref q_ji, .int j_in, .ref q_jo, .int j_out', .ref q_jm, .int j_made, .ref q_jn, .ref q_jf, .int j_known, .int j_fat, .int j_flong, .int j_told', .int j_at, .int j_end, .int j_fault, .int j_fp])), (q_ji, .inl (cB, 10000, .inl ji_f)), (q_jo, .inl (cB, 10000, .inl jo_f')), (q_jm, .inl (cB, 20000, .inl jm_f)), (q_jn, .inl (cI, 10001, .inl jn_f)), (q_jf, .inl (cI, 10001, .inl jf_f))]) args s 0 0 A) (F0 m 19 ls [.int k1, .ref q_j]) := by
  obtain ⟨hF, hr, hlocks⟩ := id hF2
  obtain ⟨hx, hb, hml, hown, hts⟩ := id hF
  intro k1 j_out j_told jo_f H locs ls hm hw hl
  unfold m_Mo_endReading_19 at hm
  refine tp_put (v := .int k1) (C := R_Mo) (T := T_Mo) (WS' := [(q_j, .inr (7, [.ref q_ji, .int j_in, .ref q_jo, .int j_out, .ref q_jm, .int j_made, .ref q_jn, .ref q_jf, .int j_known, .int j_fat, .int j_flong, .int k1, .int j_at, .int j_end, .int j_fault, .int j_fp])), (q_ji, .inl (cB, 10000, .inl ji_f)), (q_jo, .inl (cB, 10000, .inl jo_f)), (q_jm, .inl (cB, 20000, .inl jm_f)), (q_jn, .inl (cI, 10001, .inl jn_f)), (q_jf, .inl (cI, 10001, .inl jf_f))]) hx hb hts fw_Mo ty_Mo ty_Mo_ok nm_Mo hown hw 0 rfl rfl 11 (by decide +kernel) (hts _ wd_436) rfl rfl rfl (Nat.le_of_ble_eq_true rfl) rfl d_Mo_endReading_19 (fun H locs hw => ?_)
  refine lv_aload_n hx hb d_Mo_endReading_22 rfl (lv_at hl 0 rfl) ?_
  refine tp_get (v := .int j_fault) (C := R_Mo) (T := T_Mo) hx hb hts fw_Mo hown hw 0 rfl rfl 14 (by decide +kernel) (hts _ wd_402) rfl d_Mo_endReading_23 ?_
  refine lv_if_ne (tgt := 36) hx hb d_Mo_endReading_26 (by decide +kernel) (fun hc2 => ?_) (fun hc2 => ?_)
  · replace hm := tp_if hc2 hm
    refine lv_aload_n hx hb d_Mo_endReading_36 rfl (lv_at hl 0 rfl) ?_
    refine tp_get (v := .int j_fault) (C := R_Mo) (T := T_Mo) hx hb hts fw_Mo hown hw 0 rfl rfl 14 (by decide +kernel) (hts _ wd_402) rfl d_Mo_endReading_37 ?_
    refine lv_ineg hx hb d_Mo_endReading_40 ?_
    obtain ⟨rfl, rfl, rfl, rfl⟩ := tp_inj4 hm
    exact tp_iret hx hb hr hlocks hw d_Mo_endReading_41
  · replace hm := tp_it hc2 hm
    refine lv_aload_n hx hb d_Mo_endReading_29 rfl (lv_at hl 0 rfl) ?_
    obtain ⟨r3, j_out_4, jo_f_5, hm6, hm⟩ := tp_b3_e hm
    refine tp_calli (wr := []) (WS' := [(q_j, .inr (7, [.ref q_ji, .int j_in, .ref q_jo, .int j_out_4, .ref q_jm, .int j_made, .ref q_jn, .ref q_jf, .int j_known, .int j_fat, .int j_flong, .int k1, .int j_at, .int j_end, .int j_fault, .int j_fp])), (q_ji, .inl (cB, 10000, .inl ji_f)), (q_jo, .inl (cB, 10000, .inl jo_f_5)), (q_jm, .inl (cB, 20000, .inl jm_f)), (q_jn, .inl (cI, 10001, .inl jn_f)), (q_jf, .inl (cI, 10001, .inl jf_f))]) (va_runV (As := []) (rest := []) hF (ct_Mo_settle (l := l) (D := D) (cB := cB) (cI := cI) (tM := tM) (q_j := q_j) (q_ji := q_ji) (q_jo := q_jo) (q_jm := q_jm) (q_jn := q_jn) (q_jf := q_jf) (j_in := j_in) (j_out := j_out) (j_made := j_made) (j_known := j_known) (j_fat := j_fat) (j_flong := j_flong) (j_told := k1) (j_at := j_at) (j_end := j_end) (j_fault := j_fault) (j_fp := j_fp) (ji_f := ji_f) (jo_f := jo_f) (jm_f := jm_f) (jn_f := jn_f) (jf_f := jf_f) (N := N) (r := r3) (j_out' := j_out_4) (jo_f' := jo_f_5) hm6 _) (cwV 0 hts (tpG_V wd_399 wd_400 wd_401 wd_340 wd_398) rfl rfl rfl ⟨rfl, yd_Mo_settle⟩ ⟨Nat.le_of_ble_eq_true rfl, Nat.le_of_ble_eq_true rfl⟩) ⟨tp_blind, va_recv hw.1 hw.2.1 (ci := 7) (q0 := 0) rfl rfl, tp_pre hw [0, 1, 2, 3, 4, 5] rfl rfl⟩ rfl rfl hl.1 rfl (lv_room (Nat.le_of_ble_eq_true rfl)) d_Mo_endReading_30 ⟨Nat.le_of_ble_eq_true rfl, Nat.le_of_ble_eq_true rfl⟩) hw [0, 1, 2, 3, 4, 5] [] [0, 1, 2, 3, 4, 5] rfl rfl rfl (by decide) rfl rfl (fun H locs hw => ?_)
    refine lv_goto (tgt := 41) hx hb d_Mo_endReading_33 (by decide +kernel) ?_
    obtain ⟨rfl, rfl, rfl, rfl⟩ := tp_inj4 hm
    exact tp_iret hx hb hr hlocks hw d_Mo_endReading_41
set_option maxHeartbeats 4000000 in
set_option maxRecDepth 100000 in
theorem ct_Mo_endReading {q_j q_ji q_jo q_jm q_jn q_jf : Nat} {j_in : Int32} {j_out : Int32} {j_made : Int32} {j_known : Int32} {j_fat : Int32} {j_flong : Int32} {j_told : Int32} {j_at : Int32} {j_end : Int32} {j_fault : Int32} {j_fp : Int32} {ji_f : Nat → Int32} {jo_f : Nat → Int32} {jm_f : Nat → Int32} {jn_f : Nat → Int32} {jf_f : Nat → Int32} {N : Nat} {r : Int32} {j_out' : Int32} {j_told' : Int32} {jo_f' : Nat → Int32} (hm : m_Mo_endReading N j_in j_out j_made j_told j_fault j_fp jo_f jm_f = some (r, j_out', j_told', jo_f')) (sz : Nat) : tp_Ci l y_Mo_endReading ws_Mo_endReading rm_Mo_endReading D (tp_ty cB cI) tM [.ref q_j] [(q_j, .inr (7, [.ref q_ji, .int j_in, .ref q_jo, .int j_out, .ref q_jm, .int j_made, .ref q_jn, .ref q_jf, .int j_known, .int j_fat, .int j_flong, .int j_told, .int j_at, .int j_end, .int j_fault, .int j_fp])), (q_ji, .inl (cB, 10000, .inl ji_f)), (q_jo, .inl (cB, 10000, .inl jo_f)), (q_jm, .inl (cB, 20000, .inl jm_f)), (q_jn, .inl (cI, 10001, .inl jn_f)), (q_jf, .inl (cI, 10001, .inl jf_f))] sz r [(q_j, .inr (7, [.ref q_ji, .int j_in, .ref q_jo, .int j_out', .ref q_jm, .int j_made, .ref q_jn, .ref q_jf, .int j_known, .int j_fat, .int j_flong, .int j_told', .int j_at, .int j_end, .int j_fault, .int j_fp])), (q_ji, .inl (cB, 10000, .inl ji_f)), (q_jo, .inl (cB, 10000, .inl jo_f')), (q_jm, .inl (cB, 20000, .inl jm_f)), (q_jn, .inl (cI, 10001, .inl jn_f)), (q_jf, .inl (cI, 10001, .inl jf_f))] := by
  refine Met.ofW (cc := c_Mo_endReading) (maxL := 1) (ret := (some .int)) (by decide) rfl ?_
  intro p e s m args below meth c s₁ B hml hv
  obtain ⟨rfl, hv⟩ := hv
  have hw := tp_entry hv
  generalize va_A [(q_j, .inr (7, [.ref q_ji, .int j_in, .ref q_jo, .int j_out, .ref q_jm, .int j_made, .ref q_jn, .ref q_jf, .int j_known, .int j_fat, .int j_flong, .int j_told, .int j_at, .int j_end, .int j_fault, .int j_fp])), (q_ji, .inl (cB, 10000, .inl ji_f)), (q_jo, .inl (cB, 10000, .inl jo_f)), (q_jm, .inl (cB, 20000, .inl jm_f)), (q_jn, .inl (cI, 10001, .inl jn_f)), (q_jf, .inl (cI, 10001, .inl jf_f))] sz = A at hw ⊢
  have hx := B.exec
  have hb := B.bytes
  have hr := B.returns
  have hts0 := atoms_spec (ws := ws_Mo_endReading) B.pre
  have hts := fun w h => hts0 w (List.mem_cons_of_mem _ h)
  have hown : s.vm.findClass R_Mo = some m.cls := findClass_of_methodNamed B.named
  have hlocks := B.notSynchronized
  have hF : CallFix p m c c_Mo_endReading 1 s _ tpG R_Mo := ⟨hx, hb, hml, hown, hts⟩
  have hF2 : tp_F p m c c_Mo_endReading 1 s _ tpG R_Mo meth (some .int) := ⟨hF, hr, hlocks⟩
  have hl := lv_entry ([.ref q_j]) (n := 1) (Nat.le_of_ble_eq_true rfl)
  rw [lg_entry_eq]
  generalize (lg_sl ([.ref q_j]) ++ List.replicate (1 - (lg_sl ([.ref q_j])).length) Slot.unset).toArray = ls at hl ⊢
  replace hl : lv_has ls 1 [(0, .ref q_j)] := hl
  unfold m_Mo_endReading at hm
  refine lv_aload_n hx hb d_Mo_endReading_0 rfl (lv_at hl 0 rfl) ?_
  refine lv_aload_n hx hb d_Mo_endReading_1 rfl (lv_at hl 0 rfl) ?_
  refine tp_get (v := .int j_fault) (C := R_Mo) (T := T_Mo) hx hb hts fw_Mo hown hw 0 rfl rfl 14 (by decide +kernel) (hts _ wd_402) rfl d_Mo_endReading_2 ?_
  refine lv_if_ne (tgt := 15) hx hb d_Mo_endReading_5 (by decide +kernel) (fun hc1 => ?_) (fun hc1 => ?_)
  · replace hm := tp_if hc1 hm
    refine lv_aload_n hx hb d_Mo_endReading_15 rfl (lv_at hl 0 rfl) ?_
    refine tp_get (v := .int j_fp) (C := R_Mo) (T := T_Mo) hx hb hts fw_Mo hown hw 0 rfl rfl 15 (by decide +kernel) (hts _ wd_403) rfl d_Mo_endReading_16 ?_
    exact w_Mo_endReading_19 hF2  _ _ _ _ _ _ _ hm hw (lv_sub hl [0] rfl)
  · replace hm := tp_it hc1 hm
    refine lv_aload_n hx hb d_Mo_endReading_8 rfl (lv_at hl 0 rfl) ?_
    refine tp_get (v := .int j_in) (C := R_Mo) (T := T_Mo) hx hb hts fw_Mo hown hw 0 rfl rfl 1 (by decide +kernel) (hts _ wd_332) rfl d_Mo_endReading_9 ?_
    refine lv_goto (tgt := 19) hx hb d_Mo_endReading_12 (by decide +kernel) ?_
    exact w_Mo_endReading_19 hF2  _ _ _ _ _ _ _ hm hw (lv_sub hl [0] rfl)
end
abbrev rm_Mo_unpack : Room := { frames := 4, cells := 0, slots := 0, locals := 108 }
abbrev ws_Mo_unpack : List Cond := .code y_Mo_unpack c_Mo_unpack 2 (some .int) :: tpG
noncomputable def m_Mo_unpack (N : Nat) (x1 : Int32) (j_in : Int32) (j_out : Int32) (j_made : Int32) (j_told : Int32) (j_at : Int32) (j_end : Int32) (j_fault : Int32) (j_fp : Int32) (ji_f : Nat → Int32) (jo_f : Nat → Int32) (jm_f : Nat → Int32) : Option (Int32 × Int32 × Int32 × Int32 × Int32 × Int32 × Int32 × Int32 × (Nat → Int32) × (Nat → Int32)) :=
  if x1 < 0 then
    some ((-20 : Int32), j_out, j_made, j_told, j_at, j_end, j_fault, j_fp, jo_f, jm_f)
  else
    if x1 ≤ (10000 : Int32) then
      tp_b4 (m_Mo_beginReading j_in j_made j_at j_end j_fault) fun j_made_3 j_at_4 j_end_5 j_fault_6 =>
      tp_b5 (m_Mo_takeBlock N x1 j_made_3 j_at_4 j_end_5 j_fault_6 j_fp ji_f jm_f) fun j_made_8 j_at_9 j_fault_10 j_fp_11 jm_f_12 =>
      tp_b4 (m_Mo_endReading N j_in j_out j_made_8 j_told j_fault_10 j_fp_11 jo_f jm_f_12) fun r14 j_out_15 j_told_16 jo_f_17 =>
      some (r14, j_out_15, j_made_8, j_told_16, j_at_9, j_end_5, j_fault_10, j_fp_11, jo_f_17, jm_f_12)
    else
      some ((-20 : Int32), j_out, j_made, j_told, j_at, j_end, j_fault, j_fp, jo_f, jm_f)
section
variable {p : Program} {l : Launch} {e : Env} {s : State} {m : MethodId} {args : Array Value} {below : List Frame} {meth : Method} {c : Code} {A : Nat → Prop} {D : va_G} {cB cI : ClassId} {tM : Nat}
set_option maxHeartbeats 4000000 in
set_option maxRecDepth 100000 in
theorem ct_Mo_unpack {q_j q_ji q_jo q_jm q_jn q_jf : Nat} {j_in : Int32} {j_out : Int32} {j_made : Int32} {j_known : Int32} {j_fat : Int32} {j_flong : Int32} {j_told : Int32} {j_at : Int32} {j_end : Int32} {j_fault : Int32} {j_fp : Int32} {ji_f : Nat → Int32} {jo_f : Nat → Int32} {jm_f : Nat → Int32} {jn_f : Nat → Int32} {jf_f : Nat → Int32} {N : Nat} {x1 : Int32} {r : Int32} {j_out' : Int32} {j_made' : Int32} {j_told' : Int32} {j_at' : Int32} {j_end' : Int32} {j_fault' : Int32} {j_fp' : Int32} {jo_f' : Nat → Int32} {jm_f' : Nat → Int32} (hm : m_Mo_unpack N x1 j_in j_out j_made j_told j_at j_end j_fault j_fp ji_f jo_f jm_f = some (r, j_out', j_made', j_told', j_at', j_end', j_fault', j_fp', jo_f', jm_f')) (sz : Nat) : tp_Ci l y_Mo_unpack ws_Mo_unpack rm_Mo_unpack D (tp_ty cB cI) tM [.ref q_j, .int x1] [(q_j, .inr (7, [.ref q_ji, .int j_in, .ref q_jo, .int j_out, .ref q_jm, .int j_made, .ref q_jn, .ref q_jf, .int j_known, .int j_fat, .int j_flong, .int j_told, .int j_at, .int j_end, .int j_fault, .int j_fp])), (q_ji, .inl (cB, 10000, .inl ji_f)), (q_jo, .inl (cB, 10000, .inl jo_f)), (q_jm, .inl (cB, 20000, .inl jm_f)), (q_jn, .inl (cI, 10001, .inl jn_f)), (q_jf, .inl (cI, 10001, .inl jf_f))] sz r [(q_j, .inr (7, [.ref q_ji, .int j_in, .ref q_jo, .int j_out', .ref q_jm, .int j_made', .ref q_jn, .ref q_jf, .int j_known, .int j_fat, .int j_flong, .int j_told', .int j_at', .int j_end', .int j_fault', .int j_fp'])), (q_ji, .inl (cB, 10000, .inl ji_f)), (q_jo, .inl (cB, 10000, .inl jo_f')), (q_jm, .inl (cB, 20000, .inl jm_f')), (q_jn, .inl (cI, 10001, .inl jn_f)), (q_jf, .inl (cI, 10001, .inl jf_f))] := by
  refine Met.ofW (cc := c_Mo_unpack) (maxL := 2) (ret := (some .int)) (by decide) rfl ?_
  intro p e s m args below meth c s₁ B hml hv
  obtain ⟨rfl, hv⟩ := hv
  have hw := tp_entry hv
  generalize va_A [(q_j, .inr (7, [.ref q_ji, .int j_in, .ref q_jo, .int j_out, .ref q_jm, .int j_made, .ref q_jn, .ref q_jf, .int j_known, .int j_fat, .int j_flong, .int j_told, .int j_at, .int j_end, .int j_fault, .int j_fp])), (q_ji, .inl (cB, 10000, .inl ji_f)), (q_jo, .inl (cB, 10000, .inl jo_f)), (q_jm, .inl (cB, 20000, .inl jm_f)), (q_jn, .inl (cI, 10001, .inl jn_f)), (q_jf, .inl (cI, 10001, .inl jf_f))] sz = A at hw ⊢
  have hx := B.exec
  have hb := B.bytes
  have hr := B.returns
  have hts0 := atoms_spec (ws := ws_Mo_unpack) B.pre
  have hts := fun w h => hts0 w (List.mem_cons_of_mem _ h)
  have hown : s.vm.findClass R_Mo = some m.cls := findClass_of_methodNamed B.named
  have hlocks := B.notSynchronized
  have hF : CallFix p m c c_Mo_unpack 2 s _ tpG R_Mo := ⟨hx, hb, hml, hown, hts⟩
  have hF2 : tp_F p m c c_Mo_unpack 2 s _ tpG R_Mo meth (some .int) := ⟨hF, hr, hlocks⟩
  have hl := lv_entry ([.ref q_j, .int x1]) (n := 2) (Nat.le_of_ble_eq_true rfl)
  rw [lg_entry_eq]
  generalize (lg_sl ([.ref q_j, .int x1]) ++ List.replicate (2 - (lg_sl ([.ref q_j, .int x1])).length) Slot.unset).toArray = ls at hl ⊢
  replace hl : lv_has ls 2 [(0, .ref q_j), (1, .int x1)] := hl
  unfold m_Mo_unpack at hm
  refine lv_iload_n hx hb d_Mo_unpack_0 rfl (lv_at hl 1 rfl) ?_
  refine lv_if_lt (tgt := 11) hx hb d_Mo_unpack_1 (by decide +kernel) (fun hc1 => ?_) (fun hc1 => ?_)
  · replace hm := tp_it hc1 hm
    refine lv_bipush (v := (-20 : Int32)) hx hb d_Mo_unpack_11 (by decide +kernel) ?_
    obtain ⟨rfl, rfl, rfl, rfl, rfl, rfl, rfl, rfl, rfl, rfl⟩ := tp_inj10 hm
    exact tp_iret hx hb hr hlocks hw d_Mo_unpack_13
  · replace hm := tp_if hc1 hm
    refine lv_iload_n hx hb d_Mo_unpack_4 rfl (lv_at hl 1 rfl) ?_
    refine lv_sipush (v := (10000 : Int32)) hx hb d_Mo_unpack_5 (by decide +kernel) ?_
    refine lv_icmp_le (tgt := 14) hx hb d_Mo_unpack_8 (by decide +kernel) (fun hc2 => ?_) (fun hc2 => ?_)
    · replace hm := tp_it hc2 hm
      refine lv_aload_n hx hb d_Mo_unpack_14 rfl (lv_at hl 0 rfl) ?_
      obtain ⟨j_made_3, j_at_4, j_end_5, j_fault_6, hm7, hm⟩ := tp_b4_e hm
      refine tp_callv (wr := []) (WS' := [(q_j, .inr (7, [.ref q_ji, .int j_in, .ref q_jo, .int j_out, .ref q_jm, .int j_made_3, .ref q_jn, .ref q_jf, .int j_known, .int j_fat, .int j_flong, .int j_told, .int j_at_4, .int j_end_5, .int j_fault_6, .int j_fp])), (q_ji, .inl (cB, 10000, .inl ji_f)), (q_jo, .inl (cB, 10000, .inl jo_f)), (q_jm, .inl (cB, 20000, .inl jm_f)), (q_jn, .inl (cI, 10001, .inl jn_f)), (q_jf, .inl (cI, 10001, .inl jf_f))]) (va_runV (As := []) (rest := []) hF (ct_Mo_beginReading (l := l) (D := D) (cB := cB) (cI := cI) (tM := tM) (q_j := q_j) (q_ji := q_ji) (q_jo := q_jo) (q_jm := q_jm) (q_jn := q_jn) (q_jf := q_jf) (j_in := j_in) (j_out := j_out) (j_made := j_made) (j_known := j_known) (j_fat := j_fat) (j_flong := j_flong) (j_told := j_told) (j_at := j_at) (j_end := j_end) (j_fault := j_fault) (j_fp := j_fp) (ji_f := ji_f) (jo_f := jo_f) (jm_f := jm_f) (jn_f := jn_f) (jf_f := jf_f) (j_made' := j_made_3) (j_at' := j_at_4) (j_end' := j_end_5) (j_fault' := j_fault_6) hm7 _) (cwV 0 hts (tpG_V wd_438 wd_439 wd_440 wd_340 wd_437) rfl rfl rfl ⟨rfl, yd_Mo_beginReading⟩ ⟨Nat.le_of_ble_eq_true rfl, Nat.le_of_ble_eq_true rfl⟩) ⟨tp_blind, va_recv hw.1 hw.2.1 (ci := 7) (q0 := 0) rfl rfl, tp_pre hw [0, 1, 2, 3, 4, 5] rfl rfl⟩ rfl rfl hl.1 rfl (lv_room (Nat.le_of_ble_eq_true rfl)) d_Mo_unpack_15 ⟨Nat.le_of_ble_eq_true rfl, Nat.le_of_ble_eq_true rfl⟩) hw [0, 1, 2, 3, 4, 5] [] [0, 1, 2, 3, 4, 5] rfl rfl rfl (by decide) rfl rfl (fun H locs hw => ?_)
      refine lv_aload_n hx hb d_Mo_unpack_18 rfl (lv_at hl 0 rfl) ?_
      refine lv_iload_n hx hb d_Mo_unpack_19 rfl (lv_at hl 1 rfl) ?_
      obtain ⟨j_made_8, j_at_9, j_fault_10, j_fp_11, jm_f_12, hm13, hm⟩ := tp_b5_e hm
      refine tp_callv (wr := []) (WS' := [(q_j, .inr (7, [.ref q_ji, .int j_in, .ref q_jo, .int j_out, .ref q_jm, .int j_made_8, .ref q_jn, .ref q_jf, .int j_known, .int j_fat, .int j_flong, .int j_told, .int j_at_9, .int j_end_5, .int j_fault_10, .int j_fp_11])), (q_ji, .inl (cB, 10000, .inl ji_f)), (q_jo, .inl (cB, 10000, .inl jo_f)), (q_jm, .inl (cB, 20000, .inl jm_f_12)), (q_jn, .inl (cI, 10001, .inl jn_f)), (q_jf, .inl (cI, 10001, .inl jf_f))]) (va_runV (As := [.int x1]) (rest := []) hF (ct_Mo_takeBlock (l := l) (D := D) (cB := cB) (cI := cI) (tM := tM) (q_j := q_j) (q_ji := q_ji) (q_jo := q_jo) (q_jm := q_jm) (q_jn := q_jn) (q_jf := q_jf) (j_in := j_in) (j_out := j_out) (j_made := j_made_3) (j_known := j_known) (j_fat := j_fat) (j_flong := j_flong) (j_told := j_told) (j_at := j_at_4) (j_end := j_end_5) (j_fault := j_fault_6) (j_fp := j_fp) (ji_f := ji_f) (jo_f := jo_f) (jm_f := jm_f) (jn_f := jn_f) (jf_f := jf_f) (x1 := x1) (N := N) (j_made' := j_made_8) (j_at' := j_at_9) (j_fault' := j_fault_10) (j_fp' := j_fp_11) (jm_f' := jm_f_12) hm13 _) (cwV 1 hts (tpG_V wd_442 wd_443 wd_444 wd_340 wd_441) rfl rfl rfl ⟨rfl, yd_Mo_takeBlock⟩ ⟨Nat.le_of_ble_eq_true rfl, Nat.le_of_ble_eq_true rfl⟩) ⟨tp_blind, va_recv hw.1 hw.2.1 (ci := 7) (q0 := 0) rfl rfl, tp_pre hw [0, 1, 2, 3, 4, 5] rfl rfl⟩ rfl rfl hl.1 rfl (lv_room (Nat.le_of_ble_eq_true rfl)) d_Mo_unpack_20 ⟨Nat.le_of_ble_eq_true rfl, Nat.le_of_ble_eq_true rfl⟩) hw [0, 1, 2, 3, 4, 5] [] [0, 1, 2, 3, 4, 5] rfl rfl rfl (by decide) rfl rfl (fun H locs hw => ?_)
      refine lv_aload_n hx hb d_Mo_unpack_23 rfl (lv_at hl 0 rfl) ?_
      obtain ⟨r14, j_out_15, j_told_16, jo_f_17, hm18, hm⟩ := tp_b4_e hm
      refine tp_calli (wr := []) (WS' := [(q_j, .inr (7, [.ref q_ji, .int j_in, .ref q_jo, .int j_out_15, .ref q_jm, .int j_made_8, .ref q_jn, .ref q_jf, .int j_known, .int j_fat, .int j_flong, .int j_told_16, .int j_at_9, .int j_end_5, .int j_fault_10, .int j_fp_11])), (q_ji, .inl (cB, 10000, .inl ji_f)), (q_jo, .inl (cB, 10000, .inl jo_f_17)), (q_jm, .inl (cB, 20000, .inl jm_f_12)), (q_jn, .inl (cI, 10001, .inl jn_f)), (q_jf, .inl (cI, 10001, .inl jf_f))]) (va_runV (As := []) (rest := []) hF (ct_Mo_endReading (l := l) (D := D) (cB := cB) (cI := cI) (tM := tM) (q_j := q_j) (q_ji := q_ji) (q_jo := q_jo) (q_jm := q_jm) (q_jn := q_jn) (q_jf := q_jf) (j_in := j_in) (j_out := j_out) (j_made := j_made_8) (j_known := j_known) (j_fat := j_fat) (j_flong := j_flong) (j_told := j_told) (j_at := j_at_9) (j_end := j_end_5) (j_fault := j_fault_10) (j_fp := j_fp_11) (ji_f := ji_f) (jo_f := jo_f) (jm_f := jm_f_12) (jn_f := jn_f) (jf_f := jf_f) (N := N) (r := r14) (j_out' := j_out_15) (j_told' := j_told_16) (jo_f' := jo_f_17) hm18 _) (cwV 0 hts (tpG_V wd_446 wd_447 wd_448 wd_340 wd_445) rfl rfl rfl ⟨rfl, yd_Mo_endReading⟩ ⟨Nat.le_of_ble_eq_true rfl, Nat.le_of_ble_eq_true rfl⟩) ⟨tp_blind, va_recv hw.1 hw.2.1 (ci := 7) (q0 := 0) rfl rfl, tp_pre hw [0, 1, 2, 3, 4, 5] rfl rfl⟩ rfl rfl hl.1 rfl (lv_room (Nat.le_of_ble_eq_true rfl)) d_Mo_unpack_24 ⟨Nat.le_of_ble_eq_true rfl, Nat.le_of_ble_eq_true rfl⟩) hw [0, 1, 2, 3, 4, 5] [] [0, 1, 2, 3, 4, 5] rfl rfl rfl (by decide) rfl rfl (fun H locs hw => ?_)
      obtain ⟨rfl, rfl, rfl, rfl, rfl, rfl, rfl, rfl, rfl, rfl⟩ := tp_inj10 hm
      exact tp_iret hx hb hr hlocks hw d_Mo_unpack_27
    · replace hm := tp_if hc2 hm
      refine lv_bipush (v := (-20 : Int32)) hx hb d_Mo_unpack_11 (by decide +kernel) ?_
      obtain ⟨rfl, rfl, rfl, rfl, rfl, rfl, rfl, rfl, rfl, rfl⟩ := tp_inj10 hm
      exact tp_iret hx hb hr hlocks hw d_Mo_unpack_13
end
abbrev rm_Mo_sumOf : Room := { frames := 0, cells := 0, slots := 0, locals := 0 }
abbrev ws_Mo_sumOf : List Cond := .code y_Mo_sumOf c_Mo_sumOf 7 (some .int) :: tpG
noncomputable def m_Mo_sumOf_40 (N : Nat) (z_n : Nat) (z_f : Nat → Int32) (rec5 : Int32 → Int32 → Int32 → Option (Int32)) (rec14 : Int32 → Int32 → Int32 → Int32 → Option (Int32)) (x2 : Int32) (x3 : Int32) (x4 : Int32) (x5 : Int32) (k0 : Int32) : Option (Int32) :=
  if k0 = 0 then
    rec14 x2 (tp_ushr x3 (1 : Int32)) x4 (x5 + (1 : Int32))
  else
    tp_b0 ((tp_ushr x3 (1 : Int32)) ^^^ (-2097792136 : Int32)) fun y6 =>
    rec14 x2 y6 x4 (x5 + (1 : Int32))
noncomputable def m_Mo_sumOf_14 (N : Nat) (z_n : Nat) (z_f : Nat → Int32) (rec5 : Int32 → Int32 → Int32 → Option (Int32)) (rec14 : Int32 → Int32 → Int32 → Int32 → Option (Int32)) (x2 : Int32) (x3 : Int32) (x4 : Int32) (x5 : Int32) : Option (Int32) :=
  if (8 : Int32) ≤ x5 then
    rec5 x2 x3 (x4 + (1 : Int32))
  else
    tp_gd (tp_inb x4 z_n) <|
    if ((x3 ^^^ ((z_f (Int32.toNatClampNeg x4)) >>> (x5 &&& 31))) &&& (1 : Int32)) = 0 then
      m_Mo_sumOf_40 N z_n z_f rec5 rec14 x2 x3 x4 x5 (0 : Int32)
    else
      m_Mo_sumOf_40 N z_n z_f rec5 rec14 x2 x3 x4 x5 (1 : Int32)
noncomputable def m_Mo_sumOf_5 (N : Nat) (z_n : Nat) (z_f : Nat → Int32) (rec5 : Int32 → Int32 → Int32 → Option (Int32)) (x2 : Int32) (x3 : Int32) (x4 : Int32) : Option (Int32) :=
  if x2 ≤ x4 then
    some (((((x3 ^^^ (-1 : Int32)) <<< ((17 : Int32) &&& 31)) ||| (tp_ushr (x3 ^^^ (-1 : Int32)) (15 : Int32))) + (-1568478504 : Int32)))
  else
    tp_it4 (m_Mo_sumOf_14 N z_n z_f rec5) N x2 x3 x4 (0 : Int32)
noncomputable def m_Mo_sumOf (N : Nat) (z_n : Nat) (x1 : Int32) (x2 : Int32) (z_f : Nat → Int32) : Option (Int32) :=
  tp_it3 (m_Mo_sumOf_5 N z_n z_f ) N x2 (-1 : Int32) x1
section
variable {p : Program} {l : Launch} {e : Env} {s : State} {m : MethodId} {args : Array Value} {below : List Frame} {meth : Method} {c : Code} {A : Nat → Prop} {D : va_G} {cB cI : ClassId} {tM : Nat}
set_option maxHeartbeats 4000000 in
set_option maxRecDepth 100000 in
theorem w_Mo_sumOf_40 {q_z : Nat} {z_n : Nat} {z_f : Nat → Int32} {N : Nat} {r : Int32} {rec5 : Int32 → Int32 → Int32 → Option (Int32)} {rec14 : Int32 → Int32 → Int32 → Int32 → Option (Int32)} (hF2 : tp_F p m c c_Mo_sumOf 7 s args tpG R_Mo meth (some .int)) (ih5 : ∀ (x2 : Int32) (x3 : Int32) (x4 : Int32) (H : Heap) (locs : List Loc) (ls : Array Slot), rec5 x2 x3 x4 = some (r) → tp_Wd D (tp_ty cB cI) tM A s H locs [(q_z, .inl (cB, z_n, .inl z_f))] → lv_has ls 7 [(0, .ref q_z), (2, .int x2), (3, .int x3), (4, .int x4)] → W p l e rm_Mo_sumOf s m args below meth c H locs 0 0 (MQ below (tp_Qi D A r [(q_z, .inl (cB, z_n, .inl z_f))]) args s 0 0 A) (F0 m 5 ls [])) (ih14 : ∀ (x2 : Int32) (x3 : Int32) (x4 : Int32) (x5 : Int32) (H : Heap) (locs : List Loc) (ls : Array Slot), rec14 x2 x3 x4 x5 = some (r) → tp_Wd D (tp_ty cB cI) tM A s H locs [(q_z, .inl (cB, z_n, .inl z_f))] → lv_has ls 7 [(0, .ref q_z), (2, .int x2), (3, .int x3), (4, .int x4), (5, .int x5)] → W p l e rm_Mo_sumOf s m args below meth c H locs 0 0 (MQ below (tp_Qi D A r [(q_z, .inl (cB, z_n, .inl z_f))]) args s 0 0 A) (F0 m 14 ls [])) : ∀ (x2 : Int32) (x3 : Int32) (x4 : Int32) (x5 : Int32) (k0 : Int32) (H : Heap) (locs : List Loc) (ls : Array Slot), m_Mo_sumOf_40 N z_n z_f rec5 rec14 x2 x3 x4 x5 k0 = some (r) → tp_Wd D (tp_ty cB cI) tM A s H locs [(q_z, .inl (cB, z_n, .inl z_f))] → lv_has ls 7 [(0, .ref q_z), (2, .int x2), (3, .int x3), (4, .int x4), (5, .int x5)] → W p l e rm_Mo_sumOf s m args below meth c H locs 0 0 (MQ below (tp_Qi D A r [(q_z, .inl (cB, z_n, .inl z_f))]) args s 0 0 A) (F0 m 40 ls [.int k0]) := by
  obtain ⟨hF, hr, hlocks⟩ := id hF2
  obtain ⟨hx, hb, hml, hown, hts⟩ := id hF
  intro x2 x3 x4 x5 k0 H locs ls hm hw hl
  unfold m_Mo_sumOf_40 at hm
  refine lv_istore (lv' := [(6, .int k0), (0, .ref q_z), (2, .int x2), (3, .int x3), (4, .int x4), (5, .int x5)]) hx hb d_Mo_sumOf_40 hl (by decide +kernel) rfl (fun ls hl => ?_)
  refine lv_iload_n hx hb d_Mo_sumOf_42 rfl (lv_at hl 3 rfl) ?_
  refine lv_iconst (v := (1 : Int32)) hx hb d_Mo_sumOf_43 (by decide +kernel) ?_
  refine lv_iushr (v := (tp_ushr x3 (1 : Int32))) hx hb d_Mo_sumOf_44 rfl ?_
  refine lv_istore_n (lv' := [(3, .int (tp_ushr x3 (1 : Int32))), (6, .int k0), (0, .ref q_z), (2, .int x2), (4, .int x4), (5, .int x5)]) hx hb d_Mo_sumOf_45 rfl hl (by decide +kernel) rfl (fun ls hl => ?_)
  refine lv_iload hx hb d_Mo_sumOf_46 (lv_at hl 1 rfl) ?_
  refine lv_if_eq (tgt := 56) hx hb d_Mo_sumOf_48 (by decide +kernel) (fun hc5 => ?_) (fun hc5 => ?_)
  · replace hm := tp_it hc5 hm
    refine lv_iinc (v := (x5 + (1 : Int32))) (lv' := [(5, .int (x5 + (1 : Int32))), (3, .int (tp_ushr x3 (1 : Int32))), (6, .int k0), (0, .ref q_z), (2, .int x2), (4, .int x4)]) hx hb d_Mo_sumOf_56 hl (k := 5) rfl rfl (by decide +kernel) rfl (fun ls hl => ?_)
    refine lv_goto (tgt := 14) hx hb d_Mo_sumOf_59 (by decide +kernel) ?_
    exact ih14 _ _ _ _ _ _ _ hm hw (lv_sub hl [3, 4, 1, 5, 0] rfl)
  · replace hm := tp_if hc5 hm
    refine lv_iload_n hx hb d_Mo_sumOf_51 rfl (lv_at hl 0 rfl) ?_
    refine lv_ldc (v := (-2097792136 : Int32)) hx hb hown (hts _ wd_450) d_Mo_sumOf_52 ?_
    refine lv_ixor hx hb d_Mo_sumOf_54 ?_
    obtain ⟨y6, ey6, hm⟩ := tp_b0_e hm
    refine tp_topi ey6 ?_
    refine lv_istore_n (lv' := [(3, .int y6), (6, .int k0), (0, .ref q_z), (2, .int x2), (4, .int x4), (5, .int x5)]) hx hb d_Mo_sumOf_55 rfl hl (by decide +kernel) rfl (fun ls hl => ?_)
    refine lv_iinc (v := (x5 + (1 : Int32))) (lv' := [(5, .int (x5 + (1 : Int32))), (3, .int y6), (6, .int k0), (0, .ref q_z), (2, .int x2), (4, .int x4)]) hx hb d_Mo_sumOf_56 hl (k := 5) rfl rfl (by decide +kernel) rfl (fun ls hl => ?_)
    refine lv_goto (tgt := 14) hx hb d_Mo_sumOf_59 (by decide +kernel) ?_
    exact ih14 _ _ _ _ _ _ _ hm hw (lv_sub hl [3, 4, 1, 5, 0] rfl)
set_option maxHeartbeats 4000000 in
set_option maxRecDepth 100000 in
theorem w_Mo_sumOf_14 {q_z : Nat} {z_n : Nat} {z_f : Nat → Int32} {N : Nat} {r : Int32} {rec5 : Int32 → Int32 → Int32 → Option (Int32)} (hF2 : tp_F p m c c_Mo_sumOf 7 s args tpG R_Mo meth (some .int)) (ih5 : ∀ (x2 : Int32) (x3 : Int32) (x4 : Int32) (H : Heap) (locs : List Loc) (ls : Array Slot), rec5 x2 x3 x4 = some (r) → tp_Wd D (tp_ty cB cI) tM A s H locs [(q_z, .inl (cB, z_n, .inl z_f))] → lv_has ls 7 [(0, .ref q_z), (2, .int x2), (3, .int x3), (4, .int x4)] → W p l e rm_Mo_sumOf s m args below meth c H locs 0 0 (MQ below (tp_Qi D A r [(q_z, .inl (cB, z_n, .inl z_f))]) args s 0 0 A) (F0 m 5 ls [])) : ∀ (n : Nat), ∀ (x2 : Int32) (x3 : Int32) (x4 : Int32) (x5 : Int32) (H : Heap) (locs : List Loc) (ls : Array Slot), tp_it4 (m_Mo_sumOf_14 N z_n z_f rec5) n x2 x3 x4 x5 = some (r) → tp_Wd D (tp_ty cB cI) tM A s H locs [(q_z, .inl (cB, z_n, .inl z_f))] → lv_has ls 7 [(0, .ref q_z), (2, .int x2), (3, .int x3), (4, .int x4), (5, .int x5)] → W p l e rm_Mo_sumOf s m args below meth c H locs 0 0 (MQ below (tp_Qi D A r [(q_z, .inl (cB, z_n, .inl z_f))]) args s 0 0 A) (F0 m 14 ls []) := by
  obtain ⟨hF, hr, hlocks⟩ := id hF2
  obtain ⟨hx, hb, hml, hown, hts⟩ := id hF
  intro n
  induction n with
  | zero => intro x2 x3 x4 x5 H locs ls hm; exact absurd hm (by simp [tp_it4])
  | succ n ih14 =>
    intro x2 x3 x4 x5 H locs ls hm hw hl
    replace hm : m_Mo_sumOf_14 N z_n z_f rec5 (tp_it4 (m_Mo_sumOf_14 N z_n z_f rec5) n) x2 x3 x4 x5 = some (r) := hm
    unfold m_Mo_sumOf_14 at hm
    refine lv_iload hx hb d_Mo_sumOf_14 (lv_at hl 4 rfl) ?_
    refine lv_bipush (v := (8 : Int32)) hx hb d_Mo_sumOf_16 (by decide +kernel) ?_
    refine lv_icmp_ge (tgt := 62) hx hb d_Mo_sumOf_18 (by decide +kernel) (fun hc2 => ?_) (fun hc2 => ?_)
    · replace hm := tp_it hc2 hm
      refine lv_iinc (v := (x4 + (1 : Int32))) (lv' := [(4, .int (x4 + (1 : Int32))), (0, .ref q_z), (2, .int x2), (3, .int x3), (5, .int x5)]) hx hb d_Mo_sumOf_62 hl (k := 3) rfl rfl (by decide +kernel) rfl (fun ls hl => ?_)
      refine lv_goto (tgt := 5) hx hb d_Mo_sumOf_65 (by decide +kernel) ?_
      exact ih5 _ _ _ _ _ _ hm hw (lv_sub hl [1, 2, 3, 0] rfl)
    · replace hm := tp_if hc2 hm
      refine lv_iload_n hx hb d_Mo_sumOf_21 rfl (lv_at hl 2 rfl) ?_
      refine lv_aload_n hx hb d_Mo_sumOf_22 rfl (lv_at hl 0 rfl) ?_
      refine lv_iload hx hb d_Mo_sumOf_23 (lv_at hl 3 rfl) ?_
      obtain ⟨hi3, hm⟩ := tp_gd_e hm
      refine tp_bald hx hb hw 0 0 rfl rfl hi3 d_Mo_sumOf_25 ?_
      refine lv_iload hx hb d_Mo_sumOf_26 (lv_at hl 4 rfl) ?_
      refine lv_ishr hx hb d_Mo_sumOf_28 ?_
      refine lv_ixor hx hb d_Mo_sumOf_29 ?_
      refine lv_iconst (v := (1 : Int32)) hx hb d_Mo_sumOf_30 (by decide +kernel) ?_
      refine lv_iand hx hb d_Mo_sumOf_31 ?_
      refine lv_if_eq (tgt := 39) hx hb d_Mo_sumOf_32 (by decide +kernel) (fun hc4 => ?_) (fun hc4 => ?_)
      · replace hm := tp_it hc4 hm
        refine lv_iconst (v := (0 : Int32)) hx hb d_Mo_sumOf_39 (by decide +kernel) ?_
        exact w_Mo_sumOf_40 hF2 ih5 ih14 _ _ _ _ _ _ _ _ hm hw (lv_sub hl [0, 1, 2, 3, 4] rfl)
      · replace hm := tp_if hc4 hm
        refine lv_iconst (v := (1 : Int32)) hx hb d_Mo_sumOf_35 (by decide +kernel) ?_
        refine lv_goto (tgt := 40) hx hb d_Mo_sumOf_36 (by decide +kernel) ?_
        exact w_Mo_sumOf_40 hF2 ih5 ih14 _ _ _ _ _ _ _ _ hm hw (lv_sub hl [0, 1, 2, 3, 4] rfl)
set_option maxHeartbeats 4000000 in
set_option maxRecDepth 100000 in
theorem w_Mo_sumOf_5 {q_z : Nat} {z_n : Nat} {z_f : Nat → Int32} {N : Nat} {r : Int32} (hF2 : tp_F p m c c_Mo_sumOf 7 s args tpG R_Mo meth (some .int)) : ∀ (n : Nat), ∀ (x2 : Int32) (x3 : Int32) (x4 : Int32) (H : Heap) (locs : List Loc) (ls : Array Slot), tp_it3 (m_Mo_sumOf_5 N z_n z_f ) n x2 x3 x4 = some (r) → tp_Wd D (tp_ty cB cI) tM A s H locs [(q_z, .inl (cB, z_n, .inl z_f))] → lv_has ls 7 [(0, .ref q_z), (2, .int x2), (3, .int x3), (4, .int x4)] → W p l e rm_Mo_sumOf s m args below meth c H locs 0 0 (MQ below (tp_Qi D A r [(q_z, .inl (cB, z_n, .inl z_f))]) args s 0 0 A) (F0 m 5 ls []) := by
  obtain ⟨hF, hr, hlocks⟩ := id hF2
  obtain ⟨hx, hb, hml, hown, hts⟩ := id hF
  intro n
  induction n with
  | zero => intro x2 x3 x4 H locs ls hm; exact absurd hm (by simp [tp_it3])
  | succ n ih5 =>
    intro x2 x3 x4 H locs ls hm hw hl
    replace hm : m_Mo_sumOf_5 N z_n z_f  (tp_it3 (m_Mo_sumOf_5 N z_n z_f ) n) x2 x3 x4 = some (r) := hm
    unfold m_Mo_sumOf_5 at hm
    refine lv_iload hx hb d_Mo_sumOf_5 (lv_at hl 3 rfl) ?_
    refine lv_iload_n hx hb d_Mo_sumOf_7 rfl (lv_at hl 1 rfl) ?_
    refine lv_icmp_ge (tgt := 68) hx hb d_Mo_sumOf_8 (by decide +kernel) (fun hc1 => ?_) (fun hc1 => ?_)
    · replace hm := tp_it hc1 hm
      refine lv_iload_n hx hb d_Mo_sumOf_68 rfl (lv_at hl 2 rfl) ?_
      refine lv_iconst (v := (-1 : Int32)) hx hb d_Mo_sumOf_69 (by decide +kernel) ?_
      refine lv_ixor hx hb d_Mo_sumOf_70 ?_
      refine lv_istore_n (lv' := [(3, .int (x3 ^^^ (-1 : Int32))), (0, .ref q_z), (2, .int x2), (4, .int x4)]) hx hb d_Mo_sumOf_71 rfl hl (by decide +kernel) rfl (fun ls hl => ?_)
      refine lv_iload_n hx hb d_Mo_sumOf_72 rfl (lv_at hl 0 rfl) ?_
      refine lv_bipush (v := (17 : Int32)) hx hb d_Mo_sumOf_73 (by decide +kernel) ?_
      refine lv_ishl hx hb d_Mo_sumOf_75 ?_
      refine lv_iload_n hx hb d_Mo_sumOf_76 rfl (lv_at hl 0 rfl) ?_
      refine lv_bipush (v := (15 : Int32)) hx hb d_Mo_sumOf_77 (by decide +kernel) ?_
      refine lv_iushr (v := (tp_ushr (x3 ^^^ (-1 : Int32)) (15 : Int32))) hx hb d_Mo_sumOf_79 rfl ?_
      refine lv_ior hx hb d_Mo_sumOf_80 ?_
      refine lv_ldc (v := (-1568478504 : Int32)) hx hb hown (hts _ wd_449) d_Mo_sumOf_81 ?_
      refine lv_iadd hx hb d_Mo_sumOf_83 ?_
      obtain rfl := tp_inj1 hm
      exact tp_iret hx hb hr hlocks hw d_Mo_sumOf_84
    · replace hm := tp_if hc1 hm
      refine lv_iconst (v := (0 : Int32)) hx hb d_Mo_sumOf_11 (by decide +kernel) ?_
      refine lv_istore (lv' := [(5, .int (0 : Int32)), (0, .ref q_z), (2, .int x2), (3, .int x3), (4, .int x4)]) hx hb d_Mo_sumOf_12 hl (by decide +kernel) rfl (fun ls hl => ?_)
      exact w_Mo_sumOf_14 hF2 ih5 N _ _ _ _ _ _ _ hm hw (lv_sub hl [1, 2, 3, 4, 0] rfl)
set_option maxHeartbeats 4000000 in
set_option maxRecDepth 100000 in
theorem ct_Mo_sumOf {q_z : Nat} {z_n : Nat} {z_f : Nat → Int32} {N : Nat} {x1 : Int32} {x2 : Int32} {r : Int32} (hm : m_Mo_sumOf N z_n x1 x2 z_f = some (r)) (sz : Nat) : tp_Ci l y_Mo_sumOf ws_Mo_sumOf rm_Mo_sumOf D (tp_ty cB cI) tM [.ref q_z, .int x1, .int x2] [(q_z, .inl (cB, z_n, .inl z_f))] sz r [(q_z, .inl (cB, z_n, .inl z_f))] := by
  refine Met.ofW (cc := c_Mo_sumOf) (maxL := 7) (ret := (some .int)) (by decide) rfl ?_
  intro p e s m args below meth c s₁ B hml hv
  obtain ⟨rfl, hv⟩ := hv
  have hw := tp_entry hv
  generalize va_A [(q_z, .inl (cB, z_n, .inl z_f))] sz = A at hw ⊢
  have hx := B.exec
  have hb := B.bytes
  have hr := B.returns
  have hts0 := atoms_spec (ws := ws_Mo_sumOf) B.pre
  have hts := fun w h => hts0 w (List.mem_cons_of_mem _ h)
  have hown : s.vm.findClass R_Mo = some m.cls := findClass_of_methodNamed B.named
  have hlocks := B.notSynchronized
  have hF : CallFix p m c c_Mo_sumOf 7 s _ tpG R_Mo := ⟨hx, hb, hml, hown, hts⟩
  have hF2 : tp_F p m c c_Mo_sumOf 7 s _ tpG R_Mo meth (some .int) := ⟨hF, hr, hlocks⟩
  have hl := lv_entry ([.ref q_z, .int x1, .int x2]) (n := 7) (Nat.le_of_ble_eq_true rfl)
  rw [lg_entry_eq]
  generalize (lg_sl ([.ref q_z, .int x1, .int x2]) ++ List.replicate (7 - (lg_sl ([.ref q_z, .int x1, .int x2])).length) Slot.unset).toArray = ls at hl ⊢
  replace hl : lv_has ls 7 [(0, .ref q_z), (1, .int x1), (2, .int x2)] := hl
  unfold m_Mo_sumOf at hm
  refine lv_iconst (v := (-1 : Int32)) hx hb d_Mo_sumOf_0 (by decide +kernel) ?_
  refine lv_istore_n (lv' := [(3, .int (-1 : Int32)), (0, .ref q_z), (1, .int x1), (2, .int x2)]) hx hb d_Mo_sumOf_1 rfl hl (by decide +kernel) rfl (fun ls hl => ?_)
  refine lv_iload_n hx hb d_Mo_sumOf_2 rfl (lv_at hl 2 rfl) ?_
  refine lv_istore (lv' := [(4, .int x1), (3, .int (-1 : Int32)), (0, .ref q_z), (1, .int x1), (2, .int x2)]) hx hb d_Mo_sumOf_3 hl (by decide +kernel) rfl (fun ls hl => ?_)
  exact w_Mo_sumOf_5 hF2  N _ _ _ _ _ _ hm hw (lv_sub hl [2, 4, 1, 0] rfl)
end
abbrev rm_Mo_mark : Room := { frames := 0, cells := 0, slots := 0, locals := 0 }
abbrev ws_Mo_mark : List Cond := .code y_Mo_mark c_Mo_mark 1 (some .int) :: tpG
noncomputable def m_Mo_mark (x0 : Int32) : Option (Int32) :=
  if x0 = 0 then
    some ((115 : Int32))
  else
    if x0 = (1 : Int32) then
      some ((78 : Int32))
    else
      if x0 = (2 : Int32) then
        some ((97 : Int32))
      else
        if x0 = (3 : Int32) then
          some ((80 : Int32))
        else
          if x0 = (4 : Int32) then
            some ((112 : Int32))
          else
            some ((89 : Int32))
section
variable {p : Program} {l : Launch} {e : Env} {s : State} {m : MethodId} {args : Array Value} {below : List Frame} {meth : Method} {c : Code} {A : Nat → Prop} {D : va_G} {cB cI : ClassId} {tM : Nat}
set_option maxHeartbeats 4000000 in
set_option maxRecDepth 100000 in
theorem ct_Mo_mark {x0 : Int32} {r : Int32} (hm : m_Mo_mark x0 = some (r)) (sz : Nat) : tp_Ci l y_Mo_mark ws_Mo_mark rm_Mo_mark D (tp_ty cB cI) tM [.int x0] [] sz r [] := by
  refine Met.ofW (cc := c_Mo_mark) (maxL := 1) (ret := (some .int)) (by decide) rfl ?_
  intro p e s m args below meth c s₁ B hml hv
  obtain ⟨rfl, hv⟩ := hv
  have hw := tp_entry hv
  generalize va_A [] sz = A at hw ⊢
  have hx := B.exec
  have hb := B.bytes
  have hr := B.returns
  have hts0 := atoms_spec (ws := ws_Mo_mark) B.pre
  have hts := fun w h => hts0 w (List.mem_cons_of_mem _ h)
  have hown : s.vm.findClass R_Mo = some m.cls := findClass_of_methodNamed B.named
  have hlocks := B.notSynchronized
  have hF : CallFix p m c c_Mo_mark 1 s _ tpG R_Mo := ⟨hx, hb, hml, hown, hts⟩
  have hF2 : tp_F p m c c_Mo_mark 1 s _ tpG R_Mo meth (some .int) := ⟨hF, hr, hlocks⟩
  have hl := lv_entry ([.int x0]) (n := 1) (Nat.le_of_ble_eq_true rfl)
  rw [lg_entry_eq]
  generalize (lg_sl ([.int x0]) ++ List.replicate (1 - (lg_sl ([.int x0])).length) Slot.unset).toArray = ls at hl ⊢
  replace hl : lv_has ls 1 [(0, .int x0)] := hl
  unfold m_Mo_mark at hm
  refine lv_iload_n hx hb d_Mo_mark_0 rfl (lv_at hl 0 rfl) ?_
  refine lv_if_ne (tgt := 9) hx hb d_Mo_mark_1 (by decide +kernel) (fun hc1 => ?_) (fun hc1 => ?_)
  · replace hm := tp_if hc1 hm
    refine lv_iload_n hx hb d_Mo_mark_9 rfl (lv_at hl 0 rfl) ?_
    refine lv_iconst (v := (1 : Int32)) hx hb d_Mo_mark_10 (by decide +kernel) ?_
    refine lv_icmp_ne (tgt := 19) hx hb d_Mo_mark_11 (by decide +kernel) (fun hc2 => ?_) (fun hc2 => ?_)
    · replace hm := tp_if hc2 hm
      refine lv_iload_n hx hb d_Mo_mark_19 rfl (lv_at hl 0 rfl) ?_
      refine lv_iconst (v := (2 : Int32)) hx hb d_Mo_mark_20 (by decide +kernel) ?_
      refine lv_icmp_ne (tgt := 29) hx hb d_Mo_mark_21 (by decide +kernel) (fun hc3 => ?_) (fun hc3 => ?_)
      · replace hm := tp_if hc3 hm
        refine lv_iload_n hx hb d_Mo_mark_29 rfl (lv_at hl 0 rfl) ?_
        refine lv_iconst (v := (3 : Int32)) hx hb d_Mo_mark_30 (by decide +kernel) ?_
        refine lv_icmp_ne (tgt := 39) hx hb d_Mo_mark_31 (by decide +kernel) (fun hc4 => ?_) (fun hc4 => ?_)
        · replace hm := tp_if hc4 hm
          refine lv_iload_n hx hb d_Mo_mark_39 rfl (lv_at hl 0 rfl) ?_
          refine lv_iconst (v := (4 : Int32)) hx hb d_Mo_mark_40 (by decide +kernel) ?_
          refine lv_icmp_ne (tgt := 49) hx hb d_Mo_mark_41 (by decide +kernel) (fun hc5 => ?_) (fun hc5 => ?_)
          · replace hm := tp_if hc5 hm
            refine lv_bipush (v := (89 : Int32)) hx hb d_Mo_mark_49 (by decide +kernel) ?_
            obtain rfl := tp_inj1 hm
            exact tp_iret hx hb hr hlocks hw d_Mo_mark_51
          · replace hm := tp_it hc5 hm
            refine lv_bipush (v := (112 : Int32)) hx hb d_Mo_mark_44 (by decide +kernel) ?_
            refine lv_goto (tgt := 51) hx hb d_Mo_mark_46 (by decide +kernel) ?_
            obtain rfl := tp_inj1 hm
            exact tp_iret hx hb hr hlocks hw d_Mo_mark_51
        · replace hm := tp_it hc4 hm
          refine lv_bipush (v := (80 : Int32)) hx hb d_Mo_mark_34 (by decide +kernel) ?_
          refine lv_goto (tgt := 51) hx hb d_Mo_mark_36 (by decide +kernel) ?_
          obtain rfl := tp_inj1 hm
          exact tp_iret hx hb hr hlocks hw d_Mo_mark_51
      · replace hm := tp_it hc3 hm
        refine lv_bipush (v := (97 : Int32)) hx hb d_Mo_mark_24 (by decide +kernel) ?_
        refine lv_goto (tgt := 51) hx hb d_Mo_mark_26 (by decide +kernel) ?_
        obtain rfl := tp_inj1 hm
        exact tp_iret hx hb hr hlocks hw d_Mo_mark_51
    · replace hm := tp_it hc2 hm
      refine lv_bipush (v := (78 : Int32)) hx hb d_Mo_mark_14 (by decide +kernel) ?_
      refine lv_goto (tgt := 51) hx hb d_Mo_mark_16 (by decide +kernel) ?_
      obtain rfl := tp_inj1 hm
      exact tp_iret hx hb hr hlocks hw d_Mo_mark_51
  · replace hm := tp_it hc1 hm
    refine lv_bipush (v := (115 : Int32)) hx hb d_Mo_mark_4 (by decide +kernel) ?_
    refine lv_goto (tgt := 51) hx hb d_Mo_mark_6 (by decide +kernel) ?_
    obtain rfl := tp_inj1 hm
    exact tp_iret hx hb hr hlocks hw d_Mo_mark_51
end
abbrev rm_Mo_putRow : Room := { frames := 5, cells := 0, slots := 0, locals := 120 }
abbrev ws_Mo_putRow : List Cond := .code y_Mo_putRow c_Mo_putRow 8 none :: tpG
noncomputable def m_Mo_putRow_102 (N : Nat) (ji_f : Nat → Int32) (x4 : Int32) (x5 : Int32) (x6 : Int32) (j_made : Int32) (j_known : Int32) (j_fat : Int32) (j_flong : Int32) (jm_f : Nat → Int32) (jn_f : Nat → Int32) (jf_f : Nat → Int32) : Option (Int32 × Int32 × Int32 × Int32 × (Nat → Int32) × (Nat → Int32) × (Nat → Int32)) :=
  tp_b2 (m_Mo_put x6 x4 jm_f) fun j_made_20 jm_f_21 =>
  tp_b2 (m_Mo_putNumber N x5 (3 : Int32) j_made_20 jm_f_21) fun j_made_23 jm_f_24 =>
  some (j_made, j_known, j_fat, j_flong, jm_f_24, jn_f, jf_f)
noncomputable def m_Mo_putRow_79 (N : Nat) (ji_f : Nat → Int32) (rec79 : Int32 → Int32 → Int32 → Int32 → Int32 → Int32 → Int32 → Int32 → Int32 → (Nat → Int32) → (Nat → Int32) → (Nat → Int32) → Option (Int32 × Int32 × Int32 × Int32 × (Nat → Int32) × (Nat → Int32) × (Nat → Int32))) (x2 : Int32) (x4 : Int32) (x5 : Int32) (x6 : Int32) (x7 : Int32) (j_made : Int32) (j_known : Int32) (j_fat : Int32) (j_flong : Int32) (jm_f : Nat → Int32) (jn_f : Nat → Int32) (jf_f : Nat → Int32) : Option (Int32 × Int32 × Int32 × Int32 × (Nat → Int32) × (Nat → Int32) × (Nat → Int32)) :=
  if x2 ≤ x7 then
    m_Mo_putRow_102 N ji_f  x4 x5 x6 j_made j_known j_fat j_flong jm_f jn_f jf_f
  else
    tp_gd (tp_inb x7 10000) <|
    tp_b2 (m_Mo_put (ji_f (Int32.toNatClampNeg x7)) j_made jm_f) fun j_made_28 jm_f_29 =>
    rec79 x2 x4 x5 x6 (x7 + (1 : Int32)) j_made_28 j_known j_fat j_flong jm_f_29 jn_f jf_f
noncomputable def m_Mo_putRow (N : Nat) (x1 : Int32) (x2 : Int32) (x3 : Int32) (j_made : Int32) (j_known : Int32) (j_fat : Int32) (j_flong : Int32) (ji_f : Nat → Int32) (jm_f : Nat → Int32) (jn_f : Nat → Int32) (jf_f : Nat → Int32) : Option (Int32 × Int32 × Int32 × Int32 × (Nat → Int32) × (Nat → Int32) × (Nat → Int32)) :=
  tp_b2 (m_Mo_putNumber N (0 : Int32) (4 : Int32) j_made jm_f) fun j_made_1 jm_f_2 =>
  tp_b1 (m_Mo_sumOf N 10000 x1 x2 ji_f) fun r4 =>
  tp_b2 (m_Mo_putNumber N r4 (4 : Int32) j_made_1 jm_f_2) fun j_made_6 jm_f_7 =>
  tp_b7 (m_Mo_putBlock N x1 x2 x3 j_made_6 j_known j_fat j_flong ji_f jm_f_7 jn_f jf_f) fun j_made_9 j_known_10 j_fat_11 j_flong_12 jm_f_13 jn_f_14 jf_f_15 =>
  tp_b0 ((j_made_9 - j_made) - (4 : Int32)) fun y17 =>
  if (y17 - (4 : Int32)) < (x2 - x1) then
    m_Mo_putRow_102 N ji_f  j_made y17 (0 : Int32) j_made_9 j_known_10 j_fat_11 j_flong_12 jm_f_13 jn_f_14 jf_f_15
  else
    tp_b0 ((x2 - x1) + (4 : Int32)) fun y19 =>
    tp_it12 (m_Mo_putRow_79 N ji_f ) N x2 j_made y19 (1 : Int32) x1 (j_made + (8 : Int32)) j_known_10 j_fat_11 j_flong_12 jm_f_13 jn_f_14 jf_f_15
section
variable {p : Program} {l : Launch} {e : Env} {s : State} {m : MethodId} {args : Array Value} {below : List Frame} {meth : Method} {c : Code} {A : Nat → Prop} {D : va_G} {cB cI : ClassId} {tM : Nat}
set_option maxHeartbeats 4000000 in
set_option maxRecDepth 100000 in
theorem w_Mo_putRow_102 {q_j q_ji q_jo q_jm q_jn q_jf : Nat} {j_in : Int32} {j_out : Int32} {j_told : Int32} {j_at : Int32} {j_end : Int32} {j_fault : Int32} {j_fp : Int32} {ji_f : Nat → Int32} {jo_f : Nat → Int32} {N : Nat} {j_made' : Int32} {j_known' : Int32} {j_fat' : Int32} {j_flong' : Int32} {jm_f' : Nat → Int32} {jn_f' : Nat → Int32} {jf_f' : Nat → Int32} (hF2 : tp_F p m c c_Mo_putRow 8 s args tpG R_Mo meth none) : ∀ (x4 : Int32) (x5 : Int32) (x6 : Int32) (j_made : Int32) (j_known : Int32) (j_fat : Int32) (j_flong : Int32) (jm_f : Nat → Int32) (jn_f : Nat → Int32) (jf_f : Nat → Int32) (H : Heap) (locs : List Loc) (ls : Array Slot), m_Mo_putRow_102 N ji_f  x4 x5 x6 j_made j_known j_fat j_flong jm_f jn_f jf_f = some (j_made', j_known', j_fat', j_flong', jm_f', jn_f', jf_f') → tp_Wd D (tp_ty cB cI) tM A s H locs [(q_j, .inr (7, [.ref q_ji, .int j_in, .ref q_jo, .int j_out, .ref q_jm, .int j_made, .ref q_jn, .ref q_jf, .int j_known, .int j_fat, .int j_flong, .int j_told, .int j_at, .int j_end, .int j_fault, .int j_fp])), (q_ji, .inl (cB, 10000, .inl ji_f)), (q_jo, .inl (cB, 10000, .inl jo_f)), (q_jm, .inl (cB, 20000, .inl jm_f)), (q_jn, .inl (cI, 10001, .inl jn_f)), (q_jf, .inl (cI, 10001, .inl jf_f))] → lv_has ls 8 [(0, .ref q_j), (4, .int x4), (5, .int x5), (6, .int x6)] → W p l e rm_Mo_putRow s m args below meth c H locs 0 0 (MQ below (tp_Qv (S := Unit) D A (fun _ => [(q_j, .inr (7, [.ref q_ji, .int j_in, .ref q_jo, .int j_out, .ref q_jm, .int j_made', .ref q_jn, .ref q_jf, .int j_known', .int j_fat', .int j_flong', .int j_told, .int j_at, .int j_end, .int j_fault, .int j_fp])), (q_ji, .inl (cB, 10000, .inl ji_f)), (q_jo, .inl (cB, 10000, .inl jo_f)), (q_jm, .inl (cB, 20000, .inl jm_f')), (q_jn, .inl (cI, 10001, .inl jn_f')), (q_jf, .inl (cI, 10001, .inl jf_f'))])) args s 0 0 A) (F0 m 102 ls []) := by
  obtain ⟨hF, hr, hlocks⟩ := id hF2
  obtain ⟨hx, hb, hml, hown, hts⟩ := id hF
  intro x4 x5 x6 j_made j_known j_fat j_flong jm_f jn_f jf_f H locs ls hm hw hl
  unfold m_Mo_putRow_102 at hm
  refine lv_aload_n hx hb d_Mo_putRow_102 rfl (lv_at hl 0 rfl) ?_
  refine tp_get (v := .int j_made) (C := R_Mo) (T := T_Mo) hx hb hts fw_Mo hown hw 0 rfl rfl 5 (by decide +kernel) (hts _ wd_337) rfl d_Mo_putRow_103 ?_
  refine lv_istore (lv' := [(7, .int j_made), (0, .ref q_j), (4, .int x4), (5, .int x5), (6, .int x6)]) hx hb d_Mo_putRow_106 hl (by decide +kernel) rfl (fun ls hl => ?_)
  refine lv_aload_n hx hb d_Mo_putRow_108 rfl (lv_at hl 1 rfl) ?_
  refine lv_iload hx hb d_Mo_putRow_109 (lv_at hl 2 rfl) ?_
  refine tp_put (v := .int x4) (C := R_Mo) (T := T_Mo) (WS' := [(q_j, .inr (7, [.ref q_ji, .int j_in, .ref q_jo, .int j_out, .ref q_jm, .int x4, .ref q_jn, .ref q_jf, .int j_known, .int j_fat, .int j_flong, .int j_told, .int j_at, .int j_end, .int j_fault, .int j_fp])), (q_ji, .inl (cB, 10000, .inl ji_f)), (q_jo, .inl (cB, 10000, .inl jo_f)), (q_jm, .inl (cB, 20000, .inl jm_f)), (q_jn, .inl (cI, 10001, .inl jn_f)), (q_jf, .inl (cI, 10001, .inl jf_f))]) hx hb hts fw_Mo ty_Mo ty_Mo_ok nm_Mo hown hw 0 rfl rfl 5 (by decide +kernel) (hts _ wd_337) rfl rfl rfl (Nat.le_of_ble_eq_true rfl) rfl d_Mo_putRow_111 (fun H locs hw => ?_)
  refine lv_aload_n hx hb d_Mo_putRow_114 rfl (lv_at hl 1 rfl) ?_
  refine lv_iload hx hb d_Mo_putRow_115 (lv_at hl 4 rfl) ?_
  obtain ⟨j_made_20, jm_f_21, hm22, hm⟩ := tp_b2_e hm
  refine tp_callv (wr := []) (WS' := [(q_j, .inr (7, [.ref q_ji, .int j_in, .ref q_jo, .int j_out, .ref q_jm, .int j_made_20, .ref q_jn, .ref q_jf, .int j_known, .int j_fat, .int j_flong, .int j_told, .int j_at, .int j_end, .int j_fault, .int j_fp])), (q_ji, .inl (cB, 10000, .inl ji_f)), (q_jo, .inl (cB, 10000, .inl jo_f)), (q_jm, .inl (cB, 20000, .inl jm_f_21)), (q_jn, .inl (cI, 10001, .inl jn_f)), (q_jf, .inl (cI, 10001, .inl jf_f))]) (va_runV (As := [.int x6]) (rest := []) hF (ct_Mo_put (l := l) (D := D) (cB := cB) (cI := cI) (tM := tM) (q_j := q_j) (q_ji := q_ji) (q_jo := q_jo) (q_jm := q_jm) (q_jn := q_jn) (q_jf := q_jf) (j_in := j_in) (j_out := j_out) (j_made := x4) (j_known := j_known) (j_fat := j_fat) (j_flong := j_flong) (j_told := j_told) (j_at := j_at) (j_end := j_end) (j_fault := j_fault) (j_fp := j_fp) (ji_f := ji_f) (jo_f := jo_f) (jm_f := jm_f) (jn_f := jn_f) (jf_f := jf_f) (x1 := x6) (j_made' := j_made_20) (jm_f' := jm_f_21) hm22 _) (cwV 1 hts (tpG_V wd_341 wd_342 wd_343 wd_340 wd_339) rfl rfl rfl ⟨rfl, yd_Mo_put⟩ ⟨Nat.le_of_ble_eq_true rfl, Nat.le_of_ble_eq_true rfl⟩) ⟨tp_blind, va_recv hw.1 hw.2.1 (ci := 7) (q0 := 0) rfl rfl, tp_pre hw [0, 1, 2, 3, 4, 5] rfl rfl⟩ rfl rfl hl.1 rfl (lv_room (Nat.le_of_ble_eq_true rfl)) d_Mo_putRow_117 ⟨Nat.le_of_ble_eq_true rfl, Nat.le_of_ble_eq_true rfl⟩) hw [0, 1, 2, 3, 4, 5] [] [0, 1, 2, 3, 4, 5] rfl rfl rfl (by decide) rfl rfl (fun H locs hw => ?_)
  refine lv_aload_n hx hb d_Mo_putRow_120 rfl (lv_at hl 1 rfl) ?_
  refine lv_iload hx hb d_Mo_putRow_121 (lv_at hl 3 rfl) ?_
  refine lv_iconst (v := (3 : Int32)) hx hb d_Mo_putRow_123 (by decide +kernel) ?_
  obtain ⟨j_made_23, jm_f_24, hm25, hm⟩ := tp_b2_e hm
  refine tp_callv (wr := []) (WS' := [(q_j, .inr (7, [.ref q_ji, .int j_in, .ref q_jo, .int j_out, .ref q_jm, .int j_made_23, .ref q_jn, .ref q_jf, .int j_known, .int j_fat, .int j_flong, .int j_told, .int j_at, .int j_end, .int j_fault, .int j_fp])), (q_ji, .inl (cB, 10000, .inl ji_f)), (q_jo, .inl (cB, 10000, .inl jo_f)), (q_jm, .inl (cB, 20000, .inl jm_f_24)), (q_jn, .inl (cI, 10001, .inl jn_f)), (q_jf, .inl (cI, 10001, .inl jf_f))]) (va_runV (As := [.int x5, .int (3 : Int32)]) (rest := []) hF (ct_Mo_putNumber (l := l) (D := D) (cB := cB) (cI := cI) (tM := tM) (q_j := q_j) (q_ji := q_ji) (q_jo := q_jo) (q_jm := q_jm) (q_jn := q_jn) (q_jf := q_jf) (j_in := j_in) (j_out := j_out) (j_made := j_made_20) (j_known := j_known) (j_fat := j_fat) (j_flong := j_flong) (j_told := j_told) (j_at := j_at) (j_end := j_end) (j_fault := j_fault) (j_fp := j_fp) (ji_f := ji_f) (jo_f := jo_f) (jm_f := jm_f_21) (jn_f := jn_f) (jf_f := jf_f) (x1 := x5) (x2 := (3 : Int32)) (N := N) (j_made' := j_made_23) (jm_f' := jm_f_24) hm25 _) (cwV 2 hts (tpG_V wd_378 wd_379 wd_380 wd_340 wd_377) rfl rfl rfl ⟨rfl, yd_Mo_putNumber⟩ ⟨Nat.le_of_ble_eq_true rfl, Nat.le_of_ble_eq_true rfl⟩) ⟨tp_blind, va_recv hw.1 hw.2.1 (ci := 7) (q0 := 0) rfl rfl, tp_pre hw [0, 1, 2, 3, 4, 5] rfl rfl⟩ rfl rfl hl.1 rfl (lv_room (Nat.le_of_ble_eq_true rfl)) d_Mo_putRow_124 ⟨Nat.le_of_ble_eq_true rfl, Nat.le_of_ble_eq_true rfl⟩) hw [0, 1, 2, 3, 4, 5] [] [0, 1, 2, 3, 4, 5] rfl rfl rfl (by decide) rfl rfl (fun H locs hw => ?_)
  refine lv_aload_n hx hb d_Mo_putRow_127 rfl (lv_at hl 1 rfl) ?_
  refine lv_iload hx hb d_Mo_putRow_128 (lv_at hl 0 rfl) ?_
  refine tp_put (v := .int j_made) (C := R_Mo) (T := T_Mo) (WS' := [(q_j, .inr (7, [.ref q_ji, .int j_in, .ref q_jo, .int j_out, .ref q_jm, .int j_made, .ref q_jn, .ref q_jf, .int j_known, .int j_fat, .int j_flong, .int j_told, .int j_at, .int j_end, .int j_fault, .int j_fp])), (q_ji, .inl (cB, 10000, .inl ji_f)), (q_jo, .inl (cB, 10000, .inl jo_f)), (q_jm, .inl (cB, 20000, .inl jm_f_24)), (q_jn, .inl (cI, 10001, .inl jn_f)), (q_jf, .inl (cI, 10001, .inl jf_f))]) hx hb hts fw_Mo ty_Mo ty_Mo_ok nm_Mo hown hw 0 rfl rfl 5 (by decide +kernel) (hts _ wd_337) rfl rfl rfl (Nat.le_of_ble_eq_true rfl) rfl d_Mo_putRow_130 (fun H locs hw => ?_)
  obtain ⟨rfl, rfl, rfl, rfl, rfl, rfl, rfl⟩ := tp_inj7 hm
  exact tp_vret () hx hb hr hlocks hw d_Mo_putRow_133
set_option maxHeartbeats 4000000 in
set_option maxRecDepth 100000 in
theorem w_Mo_putRow_79 {q_j q_ji q_jo q_jm q_jn q_jf : Nat} {j_in : Int32} {j_out : Int32} {j_told : Int32} {j_at : Int32} {j_end : Int32} {j_fault : Int32} {j_fp : Int32} {ji_f : Nat → Int32} {jo_f : Nat → Int32} {N : Nat} {j_made' : Int32} {j_known' : Int32} {j_fat' : Int32} {j_flong' : Int32} {jm_f' : Nat → Int32} {jn_f' : Nat → Int32} {jf_f' : Nat → Int32} (hF2 : tp_F p m c c_Mo_putRow 8 s args tpG R_Mo meth none) : ∀ (n : Nat), ∀ (x2 : Int32) (x4 : Int32) (x5 : Int32) (x6 : Int32) (x7 : Int32) (j_made : Int32) (j_known : Int32) (j_fat : Int32) (j_flong : Int32) (jm_f : Nat → Int32) (jn_f : Nat → Int32) (jf_f : Nat → Int32) (H : Heap) (locs : List Loc) (ls : Array Slot), tp_it12 (m_Mo_putRow_79 N ji_f ) n x2 x4 x5 x6 x7 j_made j_known j_fat j_flong jm_f jn_f jf_f = some (j_made', j_known', j_fat', j_flong', jm_f', jn_f', jf_f') → tp_Wd D (tp_ty cB cI) tM A s H locs [(q_j, .inr (7, [.ref q_ji, .int j_in, .ref q_jo, .int j_out, .ref q_jm, .int j_made, .ref q_jn, .ref q_jf, .int j_known, .int j_fat, .int j_flong, .int j_told, .int j_at, .int j_end, .int j_fault, .int j_fp])), (q_ji, .inl (cB, 10000, .inl ji_f)), (q_jo, .inl (cB, 10000, .inl jo_f)), (q_jm, .inl (cB, 20000, .inl jm_f)), (q_jn, .inl (cI, 10001, .inl jn_f)), (q_jf, .inl (cI, 10001, .inl jf_f))] → lv_has ls 8 [(0, .ref q_j), (2, .int x2), (4, .int x4), (5, .int x5), (6, .int x6), (7, .int x7)] → W p l e rm_Mo_putRow s m args below meth c H locs 0 0 (MQ below (tp_Qv (S := Unit) D A (fun _ => [(q_j, .inr (7, [.ref q_ji, .int j_in, .ref q_jo, .int j_out, .ref q_jm, .int j_made', .ref q_jn, .ref q_jf, .int j_known', .int j_fat', .int j_flong', .int j_told, .int j_at, .int j_end, .int j_fault, .int j_fp])), (q_ji, .inl (cB, 10000, .inl ji_f)), (q_jo, .inl (cB, 10000, .inl jo_f)), (q_jm, .inl (cB, 20000, .inl jm_f')), (q_jn, .inl (cI, 10001, .inl jn_f')), (q_jf, .inl (cI, 10001, .inl jf_f'))])) args s 0 0 A) (F0 m 79 ls []) := by
  obtain ⟨hF, hr, hlocks⟩ := id hF2
  obtain ⟨hx, hb, hml, hown, hts⟩ := id hF
  intro n
  induction n with
  | zero => intro x2 x4 x5 x6 x7 j_made j_known j_fat j_flong jm_f jn_f jf_f H locs ls hm; exact absurd hm (by simp [tp_it12])
  | succ n ih79 =>
    intro x2 x4 x5 x6 x7 j_made j_known j_fat j_flong jm_f jn_f jf_f H locs ls hm hw hl
    replace hm : m_Mo_putRow_79 N ji_f  (tp_it12 (m_Mo_putRow_79 N ji_f ) n) x2 x4 x5 x6 x7 j_made j_known j_fat j_flong jm_f jn_f jf_f = some (j_made', j_known', j_fat', j_flong', jm_f', jn_f', jf_f') := hm
    unfold m_Mo_putRow_79 at hm
    refine lv_iload hx hb d_Mo_putRow_79 (lv_at hl 5 rfl) ?_
    refine lv_iload_n hx hb d_Mo_putRow_81 rfl (lv_at hl 1 rfl) ?_
    refine lv_icmp_ge (tgt := 102) hx hb d_Mo_putRow_82 (by decide +kernel) (fun hc26 => ?_) (fun hc26 => ?_)
    · replace hm := tp_it hc26 hm
      exact w_Mo_putRow_102 hF2  _ _ _ _ _ _ _ _ _ _ _ _ _ hm hw (lv_sub hl [0, 2, 3, 4] rfl)
    · replace hm := tp_if hc26 hm
      refine lv_aload_n hx hb d_Mo_putRow_85 rfl (lv_at hl 0 rfl) ?_
      refine lv_aload_n hx hb d_Mo_putRow_86 rfl (lv_at hl 0 rfl) ?_
      refine tp_get (v := .ref q_ji) (C := R_Mo) (T := T_Mo) hx hb hts fw_Mo hown hw 0 rfl rfl 0 (by decide +kernel) (hts _ wd_333) rfl d_Mo_putRow_87 ?_
      refine lv_iload hx hb d_Mo_putRow_90 (lv_at hl 5 rfl) ?_
      obtain ⟨hi27, hm⟩ := tp_gd_e hm
      refine tp_bald hx hb hw 1 0 rfl rfl hi27 d_Mo_putRow_92 ?_
      obtain ⟨j_made_28, jm_f_29, hm30, hm⟩ := tp_b2_e hm
      refine tp_callv (wr := []) (WS' := [(q_j, .inr (7, [.ref q_ji, .int j_in, .ref q_jo, .int j_out, .ref q_jm, .int j_made_28, .ref q_jn, .ref q_jf, .int j_known, .int j_fat, .int j_flong, .int j_told, .int j_at, .int j_end, .int j_fault, .int j_fp])), (q_ji, .inl (cB, 10000, .inl ji_f)), (q_jo, .inl (cB, 10000, .inl jo_f)), (q_jm, .inl (cB, 20000, .inl jm_f_29)), (q_jn, .inl (cI, 10001, .inl jn_f)), (q_jf, .inl (cI, 10001, .inl jf_f))]) (va_runV (As := [.int (ji_f (Int32.toNatClampNeg x7))]) (rest := []) hF (ct_Mo_put (l := l) (D := D) (cB := cB) (cI := cI) (tM := tM) (q_j := q_j) (q_ji := q_ji) (q_jo := q_jo) (q_jm := q_jm) (q_jn := q_jn) (q_jf := q_jf) (j_in := j_in) (j_out := j_out) (j_made := j_made) (j_known := j_known) (j_fat := j_fat) (j_flong := j_flong) (j_told := j_told) (j_at := j_at) (j_end := j_end) (j_fault := j_fault) (j_fp := j_fp) (ji_f := ji_f) (jo_f := jo_f) (jm_f := jm_f) (jn_f := jn_f) (jf_f := jf_f) (x1 := (ji_f (Int32.toNatClampNeg x7))) (j_made' := j_made_28) (jm_f' := jm_f_29) hm30 _) (cwV 1 hts (tpG_V wd_341 wd_342 wd_343 wd_340 wd_339) rfl rfl rfl ⟨rfl, yd_Mo_put⟩ ⟨Nat.le_of_ble_eq_true rfl, Nat.le_of_ble_eq_true rfl⟩) ⟨tp_blind, va_recv hw.1 hw.2.1 (ci := 7) (q0 := 0) rfl rfl, tp_pre hw [0, 1, 2, 3, 4, 5] rfl rfl⟩ rfl rfl hl.1 rfl (lv_room (Nat.le_of_ble_eq_true rfl)) d_Mo_putRow_93 ⟨Nat.le_of_ble_eq_true rfl, Nat.le_of_ble_eq_true rfl⟩) hw [0, 1, 2, 3, 4, 5] [] [0, 1, 2, 3, 4, 5] rfl rfl rfl (by decide) rfl rfl (fun H locs hw => ?_)
      refine lv_iinc (v := (x7 + (1 : Int32))) (lv' := [(7, .int (x7 + (1 : Int32))), (0, .ref q_j), (2, .int x2), (4, .int x4), (5, .int x5), (6, .int x6)]) hx hb d_Mo_putRow_96 hl (k := 5) rfl rfl (by decide +kernel) rfl (fun ls hl => ?_)
      refine lv_goto (tgt := 79) hx hb d_Mo_putRow_99 (by decide +kernel) ?_
      exact ih79 _ _ _ _ _ _ _ _ _ _ _ _ _ _ _ hm hw (lv_sub hl [1, 2, 3, 4, 5, 0] rfl)
set_option maxHeartbeats 4000000 in
set_option maxRecDepth 100000 in
theorem ct_Mo_putRow {q_j q_ji q_jo q_jm q_jn q_jf : Nat} {j_in : Int32} {j_out : Int32} {j_made : Int32} {j_known : Int32} {j_fat : Int32} {j_flong : Int32} {j_told : Int32} {j_at : Int32} {j_end : Int32} {j_fault : Int32} {j_fp : Int32} {ji_f : Nat → Int32} {jo_f : Nat → Int32} {jm_f : Nat → Int32} {jn_f : Nat → Int32} {jf_f : Nat → Int32} {N : Nat} {x1 : Int32} {x2 : Int32} {x3 : Int32} {j_made' : Int32} {j_known' : Int32} {j_fat' : Int32} {j_flong' : Int32} {jm_f' : Nat → Int32} {jn_f' : Nat → Int32} {jf_f' : Nat → Int32} (hm : m_Mo_putRow N x1 x2 x3 j_made j_known j_fat j_flong ji_f jm_f jn_f jf_f = some (j_made', j_known', j_fat', j_flong', jm_f', jn_f', jf_f')) (sz : Nat) : tp_Cv l y_Mo_putRow ws_Mo_putRow rm_Mo_putRow D (tp_ty cB cI) tM [.ref q_j, .int x1, .int x2, .int x3] [(q_j, .inr (7, [.ref q_ji, .int j_in, .ref q_jo, .int j_out, .ref q_jm, .int j_made, .ref q_jn, .ref q_jf, .int j_known, .int j_fat, .int j_flong, .int j_told, .int j_at, .int j_end, .int j_fault, .int j_fp])), (q_ji, .inl (cB, 10000, .inl ji_f)), (q_jo, .inl (cB, 10000, .inl jo_f)), (q_jm, .inl (cB, 20000, .inl jm_f)), (q_jn, .inl (cI, 10001, .inl jn_f)), (q_jf, .inl (cI, 10001, .inl jf_f))] sz [(q_j, .inr (7, [.ref q_ji, .int j_in, .ref q_jo, .int j_out, .ref q_jm, .int j_made', .ref q_jn, .ref q_jf, .int j_known', .int j_fat', .int j_flong', .int j_told, .int j_at, .int j_end, .int j_fault, .int j_fp])), (q_ji, .inl (cB, 10000, .inl ji_f)), (q_jo, .inl (cB, 10000, .inl jo_f)), (q_jm, .inl (cB, 20000, .inl jm_f')), (q_jn, .inl (cI, 10001, .inl jn_f')), (q_jf, .inl (cI, 10001, .inl jf_f'))] := by
  refine Met.ofW (cc := c_Mo_putRow) (maxL := 8) (ret := none) (by decide) rfl ?_
  intro p e s m args below meth c s₁ B hml hv
  obtain ⟨rfl, hv⟩ := hv
  have hw := tp_entry hv
  generalize va_A [(q_j, .inr (7, [.ref q_ji, .int j_in, .ref q_jo, .int j_out, .ref q_jm, .int j_made, .ref q_jn, .ref q_jf, .int j_known, .int j_fat, .int j_flong, .int j_told, .int j_at, .int j_end, .int j_fault, .int j_fp])), (q_ji, .inl (cB, 10000, .inl ji_f)), (q_jo, .inl (cB, 10000, .inl jo_f)), (q_jm, .inl (cB, 20000, .inl jm_f)), (q_jn, .inl (cI, 10001, .inl jn_f)), (q_jf, .inl (cI, 10001, .inl jf_f))] sz = A at hw ⊢
  have hx := B.exec
  have hb := B.bytes
  have hr := B.returns
  have hts0 := atoms_spec (ws := ws_Mo_putRow) B.pre
  have hts := fun w h => hts0 w (List.mem_cons_of_mem _ h)
  have hown : s.vm.findClass R_Mo = some m.cls := findClass_of_methodNamed B.named
  have hlocks := B.notSynchronized
  have hF : CallFix p m c c_Mo_putRow 8 s _ tpG R_Mo := ⟨hx, hb, hml, hown, hts⟩
  have hF2 : tp_F p m c c_Mo_putRow 8 s _ tpG R_Mo meth none := ⟨hF, hr, hlocks⟩
  have hl := lv_entry ([.ref q_j, .int x1, .int x2, .int x3]) (n := 8) (Nat.le_of_ble_eq_true rfl)
  rw [lg_entry_eq]
  generalize (lg_sl ([.ref q_j, .int x1, .int x2, .int x3]) ++ List.replicate (8 - (lg_sl ([.ref q_j, .int x1, .int x2, .int x3])).length) Slot.unset).toArray = ls at hl ⊢
  replace hl : lv_has ls 8 [(0, .ref q_j), (1, .int x1), (2, .int x2), (3, .int x3)] := hl
  unfold m_Mo_putRow at hm
  refine lv_aload_n hx hb d_Mo_putRow_0 rfl (lv_at hl 0 rfl) ?_
  refine tp_get (v := .int j_made) (C := R_Mo) (T := T_Mo) hx hb hts fw_Mo hown hw 0 rfl rfl 5 (by decide +kernel) (hts _ wd_337) rfl d_Mo_putRow_1 ?_
  refine lv_istore (lv' := [(4, .int j_made), (0, .ref q_j), (1, .int x1), (2, .int x2), (3, .int x3)]) hx hb d_Mo_putRow_4 hl (by decide +kernel) rfl (fun ls hl => ?_)
  refine lv_aload_n hx hb d_Mo_putRow_6 rfl (lv_at hl 1 rfl) ?_
  refine lv_iconst (v := (0 : Int32)) hx hb d_Mo_putRow_7 (by decide +kernel) ?_
  refine lv_iconst (v := (4 : Int32)) hx hb d_Mo_putRow_8 (by decide +kernel) ?_
  obtain ⟨j_made_1, jm_f_2, hm3, hm⟩ := tp_b2_e hm
  refine tp_callv (wr := []) (WS' := [(q_j, .inr (7, [.ref q_ji, .int j_in, .ref q_jo, .int j_out, .ref q_jm, .int j_made_1, .ref q_jn, .ref q_jf, .int j_known, .int j_fat, .int j_flong, .int j_told, .int j_at, .int j_end, .int j_fault, .int j_fp])), (q_ji, .inl (cB, 10000, .inl ji_f)), (q_jo, .inl (cB, 10000, .inl jo_f)), (q_jm, .inl (cB, 20000, .inl jm_f_2)), (q_jn, .inl (cI, 10001, .inl jn_f)), (q_jf, .inl (cI, 10001, .inl jf_f))]) (va_runV (As := [.int (0 : Int32), .int (4 : Int32)]) (rest := []) hF (ct_Mo_putNumber (l := l) (D := D) (cB := cB) (cI := cI) (tM := tM) (q_j := q_j) (q_ji := q_ji) (q_jo := q_jo) (q_jm := q_jm) (q_jn := q_jn) (q_jf := q_jf) (j_in := j_in) (j_out := j_out) (j_made := j_made) (j_known := j_known) (j_fat := j_fat) (j_flong := j_flong) (j_told := j_told) (j_at := j_at) (j_end := j_end) (j_fault := j_fault) (j_fp := j_fp) (ji_f := ji_f) (jo_f := jo_f) (jm_f := jm_f) (jn_f := jn_f) (jf_f := jf_f) (x1 := (0 : Int32)) (x2 := (4 : Int32)) (N := N) (j_made' := j_made_1) (jm_f' := jm_f_2) hm3 _) (cwV 2 hts (tpG_V wd_378 wd_379 wd_380 wd_340 wd_377) rfl rfl rfl ⟨rfl, yd_Mo_putNumber⟩ ⟨Nat.le_of_ble_eq_true rfl, Nat.le_of_ble_eq_true rfl⟩) ⟨tp_blind, va_recv hw.1 hw.2.1 (ci := 7) (q0 := 0) rfl rfl, tp_pre hw [0, 1, 2, 3, 4, 5] rfl rfl⟩ rfl rfl hl.1 rfl (lv_room (Nat.le_of_ble_eq_true rfl)) d_Mo_putRow_9 ⟨Nat.le_of_ble_eq_true rfl, Nat.le_of_ble_eq_true rfl⟩) hw [0, 1, 2, 3, 4, 5] [] [0, 1, 2, 3, 4, 5] rfl rfl rfl (by decide) rfl rfl (fun H locs hw => ?_)
  refine lv_aload_n hx hb d_Mo_putRow_12 rfl (lv_at hl 1 rfl) ?_
  refine lv_aload_n hx hb d_Mo_putRow_13 rfl (lv_at hl 1 rfl) ?_
  refine tp_get (v := .ref q_ji) (C := R_Mo) (T := T_Mo) hx hb hts fw_Mo hown hw 0 rfl rfl 0 (by decide +kernel) (hts _ wd_333) rfl d_Mo_putRow_14 ?_
  refine lv_iload_n hx hb d_Mo_putRow_17 rfl (lv_at hl 2 rfl) ?_
  refine lv_iload_n hx hb d_Mo_putRow_18 rfl (lv_at hl 3 rfl) ?_
  obtain ⟨r4, hm5, hm⟩ := tp_b1_e hm
  refine tp_calli (wr := [(q_j, .inr (7, [.ref q_ji, .int j_in, .ref q_jo, .int j_out, .ref q_jm, .int j_made_1, .ref q_jn, .ref q_jf, .int j_known, .int j_fat, .int j_flong, .int j_told, .int j_at, .int j_end, .int j_fault, .int j_fp])), (q_jo, .inl (cB, 10000, .inl jo_f)), (q_jm, .inl (cB, 20000, .inl jm_f_2)), (q_jn, .inl (cI, 10001, .inl jn_f)), (q_jf, .inl (cI, 10001, .inl jf_f))]) (WS' := [(q_j, .inr (7, [.ref q_ji, .int j_in, .ref q_jo, .int j_out, .ref q_jm, .int j_made_1, .ref q_jn, .ref q_jf, .int j_known, .int j_fat, .int j_flong, .int j_told, .int j_at, .int j_end, .int j_fault, .int j_fp])), (q_ji, .inl (cB, 10000, .inl ji_f)), (q_jo, .inl (cB, 10000, .inl jo_f)), (q_jm, .inl (cB, 20000, .inl jm_f_2)), (q_jn, .inl (cI, 10001, .inl jn_f)), (q_jf, .inl (cI, 10001, .inl jf_f))]) (va_runS (As := [.ref q_ji, .int x1, .int x2]) (rest := [.ref q_j]) hF (ct_Mo_sumOf (l := l) (D := D) (cB := cB) (cI := cI) (tM := tM) (q_z := q_ji) (z_f := ji_f) (z_n := 10000) (x1 := x1) (x2 := x2) (N := N) (r := r4) hm5 _) (va_cwS 3 hts (tpG_S wd_452 wd_453 wd_340 wd_451) rfl rfl rfl yd_Mo_sumOf ⟨Nat.le_of_ble_eq_true rfl, Nat.le_of_ble_eq_true rfl⟩) ⟨tp_blind, tp_pre hw [1] rfl rfl⟩ rfl rfl hl.1 rfl (lv_room (Nat.le_of_ble_eq_true rfl)) d_Mo_putRow_19 ⟨Nat.le_of_ble_eq_true rfl, Nat.le_of_ble_eq_true rfl⟩) hw [1] [0, 2, 3, 4, 5] [0, 5, 1, 2, 3, 4] rfl rfl rfl (by decide) rfl rfl (fun H locs hw => ?_)
  refine lv_iconst (v := (4 : Int32)) hx hb d_Mo_putRow_22 (by decide +kernel) ?_
  obtain ⟨j_made_6, jm_f_7, hm8, hm⟩ := tp_b2_e hm
  refine tp_callv (wr := []) (WS' := [(q_j, .inr (7, [.ref q_ji, .int j_in, .ref q_jo, .int j_out, .ref q_jm, .int j_made_6, .ref q_jn, .ref q_jf, .int j_known, .int j_fat, .int j_flong, .int j_told, .int j_at, .int j_end, .int j_fault, .int j_fp])), (q_ji, .inl (cB, 10000, .inl ji_f)), (q_jo, .inl (cB, 10000, .inl jo_f)), (q_jm, .inl (cB, 20000, .inl jm_f_7)), (q_jn, .inl (cI, 10001, .inl jn_f)), (q_jf, .inl (cI, 10001, .inl jf_f))]) (va_runV (As := [.int r4, .int (4 : Int32)]) (rest := []) hF (ct_Mo_putNumber (l := l) (D := D) (cB := cB) (cI := cI) (tM := tM) (q_j := q_j) (q_ji := q_ji) (q_jo := q_jo) (q_jm := q_jm) (q_jn := q_jn) (q_jf := q_jf) (j_in := j_in) (j_out := j_out) (j_made := j_made_1) (j_known := j_known) (j_fat := j_fat) (j_flong := j_flong) (j_told := j_told) (j_at := j_at) (j_end := j_end) (j_fault := j_fault) (j_fp := j_fp) (ji_f := ji_f) (jo_f := jo_f) (jm_f := jm_f_2) (jn_f := jn_f) (jf_f := jf_f) (x1 := r4) (x2 := (4 : Int32)) (N := N) (j_made' := j_made_6) (jm_f' := jm_f_7) hm8 _) (cwV 2 hts (tpG_V wd_378 wd_379 wd_380 wd_340 wd_377) rfl rfl rfl ⟨rfl, yd_Mo_putNumber⟩ ⟨Nat.le_of_ble_eq_true rfl, Nat.le_of_ble_eq_true rfl⟩) ⟨tp_blind, va_recv hw.1 hw.2.1 (ci := 7) (q0 := 0) rfl rfl, tp_pre hw [0, 1, 2, 3, 4, 5] rfl rfl⟩ rfl rfl hl.1 rfl (lv_room (Nat.le_of_ble_eq_true rfl)) d_Mo_putRow_23 ⟨Nat.le_of_ble_eq_true rfl, Nat.le_of_ble_eq_true rfl⟩) hw [0, 1, 2, 3, 4, 5] [] [0, 1, 2, 3, 4, 5] rfl rfl rfl (by decide) rfl rfl (fun H locs hw => ?_)
  refine lv_aload_n hx hb d_Mo_putRow_26 rfl (lv_at hl 1 rfl) ?_
  refine lv_iload_n hx hb d_Mo_putRow_27 rfl (lv_at hl 2 rfl) ?_
  refine lv_iload_n hx hb d_Mo_putRow_28 rfl (lv_at hl 3 rfl) ?_
  refine lv_iload_n hx hb d_Mo_putRow_29 rfl (lv_at hl 4 rfl) ?_
  obtain ⟨j_made_9, j_known_10, j_fat_11, j_flong_12, jm_f_13, jn_f_14, jf_f_15, hm16, hm⟩ := tp_b7_e hm
  refine tp_callv (wr := []) (WS' := [(q_j, .inr (7, [.ref q_ji, .int j_in, .ref q_jo, .int j_out, .ref q_jm, .int j_made_9, .ref q_jn, .ref q_jf, .int j_known_10, .int j_fat_11, .int j_flong_12, .int j_told, .int j_at, .int j_end, .int j_fault, .int j_fp])), (q_ji, .inl (cB, 10000, .inl ji_f)), (q_jo, .inl (cB, 10000, .inl jo_f)), (q_jm, .inl (cB, 20000, .inl jm_f_13)), (q_jn, .inl (cI, 10001, .inl jn_f_14)), (q_jf, .inl (cI, 10001, .inl jf_f_15))]) (va_runV (As := [.int x1, .int x2, .int x3]) (rest := []) hF (ct_Mo_putBlock (l := l) (D := D) (cB := cB) (cI := cI) (tM := tM) (q_j := q_j) (q_ji := q_ji) (q_jo := q_jo) (q_jm := q_jm) (q_jn := q_jn) (q_jf := q_jf) (j_in := j_in) (j_out := j_out) (j_made := j_made_6) (j_known := j_known) (j_fat := j_fat) (j_flong := j_flong) (j_told := j_told) (j_at := j_at) (j_end := j_end) (j_fault := j_fault) (j_fp := j_fp) (ji_f := ji_f) (jo_f := jo_f) (jm_f := jm_f_7) (jn_f := jn_f) (jf_f := jf_f) (x1 := x1) (x2 := x2) (x3 := x3) (N := N) (j_made' := j_made_9) (j_known' := j_known_10) (j_fat' := j_fat_11) (j_flong' := j_flong_12) (jm_f' := jm_f_13) (jn_f' := jn_f_14) (jf_f' := jf_f_15) hm16 _) (cwV 3 hts (tpG_V wd_395 wd_396 wd_397 wd_340 wd_394) rfl rfl rfl ⟨rfl, yd_Mo_putBlock⟩ ⟨Nat.le_of_ble_eq_true rfl, Nat.le_of_ble_eq_true rfl⟩) ⟨tp_blind, va_recv hw.1 hw.2.1 (ci := 7) (q0 := 0) rfl rfl, tp_pre hw [0, 1, 2, 3, 4, 5] rfl rfl⟩ rfl rfl hl.1 rfl (lv_room (Nat.le_of_ble_eq_true rfl)) d_Mo_putRow_30 ⟨Nat.le_of_ble_eq_true rfl, Nat.le_of_ble_eq_true rfl⟩) hw [0, 1, 2, 3, 4, 5] [] [0, 1, 2, 3, 4, 5] rfl rfl rfl (by decide) rfl rfl (fun H locs hw => ?_)
  refine lv_aload_n hx hb d_Mo_putRow_33 rfl (lv_at hl 1 rfl) ?_
  refine tp_get (v := .int j_made_9) (C := R_Mo) (T := T_Mo) hx hb hts fw_Mo hown hw 0 rfl rfl 5 (by decide +kernel) (hts _ wd_337) rfl d_Mo_putRow_34 ?_
  refine lv_iload hx hb d_Mo_putRow_37 (lv_at hl 0 rfl) ?_
  refine lv_isub hx hb d_Mo_putRow_39 ?_
  refine lv_iconst (v := (4 : Int32)) hx hb d_Mo_putRow_40 (by decide +kernel) ?_
  refine lv_isub hx hb d_Mo_putRow_41 ?_
  obtain ⟨y17, ey17, hm⟩ := tp_b0_e hm
  refine tp_topi ey17 ?_
  refine lv_istore (lv' := [(5, .int y17), (4, .int j_made), (0, .ref q_j), (1, .int x1), (2, .int x2), (3, .int x3)]) hx hb d_Mo_putRow_42 hl (by decide +kernel) rfl (fun ls hl => ?_)
  refine lv_iconst (v := (0 : Int32)) hx hb d_Mo_putRow_44 (by decide +kernel) ?_
  refine lv_istore (lv' := [(6, .int (0 : Int32)), (5, .int y17), (4, .int j_made), (0, .ref q_j), (1, .int x1), (2, .int x2), (3, .int x3)]) hx hb d_Mo_putRow_45 hl (by decide +kernel) rfl (fun ls hl => ?_)
  refine lv_iload hx hb d_Mo_putRow_47 (lv_at hl 1 rfl) ?_
  refine lv_iconst (v := (4 : Int32)) hx hb d_Mo_putRow_49 (by decide +kernel) ?_
  refine lv_isub hx hb d_Mo_putRow_50 ?_
  refine lv_iload_n hx hb d_Mo_putRow_51 rfl (lv_at hl 5 rfl) ?_
  refine lv_iload_n hx hb d_Mo_putRow_52 rfl (lv_at hl 4 rfl) ?_
  refine lv_isub hx hb d_Mo_putRow_53 ?_
  refine lv_icmp_lt (tgt := 102) hx hb d_Mo_putRow_54 (by decide +kernel) (fun hc18 => ?_) (fun hc18 => ?_)
  · replace hm := tp_it hc18 hm
    exact w_Mo_putRow_102 hF2  _ _ _ _ _ _ _ _ _ _ _ _ _ hm hw (lv_sub hl [3, 2, 1, 0] rfl)
  · replace hm := tp_if hc18 hm
    refine lv_iconst (v := (1 : Int32)) hx hb d_Mo_putRow_57 (by decide +kernel) ?_
    refine lv_istore (lv' := [(6, .int (1 : Int32)), (5, .int y17), (4, .int j_made), (0, .ref q_j), (1, .int x1), (2, .int x2), (3, .int x3)]) hx hb d_Mo_putRow_58 hl (by decide +kernel) rfl (fun ls hl => ?_)
    refine lv_iload_n hx hb d_Mo_putRow_60 rfl (lv_at hl 5 rfl) ?_
    refine lv_iload_n hx hb d_Mo_putRow_61 rfl (lv_at hl 4 rfl) ?_
    refine lv_isub hx hb d_Mo_putRow_62 ?_
    refine lv_iconst (v := (4 : Int32)) hx hb d_Mo_putRow_63 (by decide +kernel) ?_
    refine lv_iadd hx hb d_Mo_putRow_64 ?_
    obtain ⟨y19, ey19, hm⟩ := tp_b0_e hm
    refine tp_topi ey19 ?_
    refine lv_istore (lv' := [(5, .int y19), (6, .int (1 : Int32)), (4, .int j_made), (0, .ref q_j), (1, .int x1), (2, .int x2), (3, .int x3)]) hx hb d_Mo_putRow_65 hl (by decide +kernel) rfl (fun ls hl => ?_)
    refine lv_aload_n hx hb d_Mo_putRow_67 rfl (lv_at hl 3 rfl) ?_
    refine lv_iload hx hb d_Mo_putRow_68 (lv_at hl 2 rfl) ?_
    refine lv_bipush (v := (8 : Int32)) hx hb d_Mo_putRow_70 (by decide +kernel) ?_
    refine lv_iadd hx hb d_Mo_putRow_72 ?_
    refine tp_put (v := .int (j_made + (8 : Int32))) (C := R_Mo) (T := T_Mo) (WS' := [(q_j, .inr (7, [.ref q_ji, .int j_in, .ref q_jo, .int j_out, .ref q_jm, .int (j_made + (8 : Int32)), .ref q_jn, .ref q_jf, .int j_known_10, .int j_fat_11, .int j_flong_12, .int j_told, .int j_at, .int j_end, .int j_fault, .int j_fp])), (q_ji, .inl (cB, 10000, .inl ji_f)), (q_jo, .inl (cB, 10000, .inl jo_f)), (q_jm, .inl (cB, 20000, .inl jm_f_13)), (q_jn, .inl (cI, 10001, .inl jn_f_14)), (q_jf, .inl (cI, 10001, .inl jf_f_15))]) hx hb hts fw_Mo ty_Mo ty_Mo_ok nm_Mo hown hw 0 rfl rfl 5 (by decide +kernel) (hts _ wd_337) rfl rfl rfl (Nat.le_of_ble_eq_true rfl) rfl d_Mo_putRow_73 (fun H locs hw => ?_)
    refine lv_iload_n hx hb d_Mo_putRow_76 rfl (lv_at hl 4 rfl) ?_
    refine lv_istore (lv' := [(7, .int x1), (5, .int y19), (6, .int (1 : Int32)), (4, .int j_made), (0, .ref q_j), (1, .int x1), (2, .int x2), (3, .int x3)]) hx hb d_Mo_putRow_77 hl (by decide +kernel) rfl (fun ls hl => ?_)
    exact w_Mo_putRow_79 hF2  N _ _ _ _ _ _ _ _ _ _ _ _ _ _ _ hm hw (lv_sub hl [4, 6, 3, 1, 2, 0] rfl)
end
abbrev rm_Mo_chunks : Room := { frames := 6, cells := 0, slots := 0, locals := 147 }
abbrev ws_Mo_chunks : List Cond := .code y_Mo_chunks c_Mo_chunks 6 (some .int) :: tpG
noncomputable def m_Mo_chunks_139 (N : Nat) (j_in : Int32) (ji_f : Nat → Int32) (rec81 : Int32 → Int32 → Int32 → Int32 → Int32 → Int32 → Int32 → Int32 → Int32 → (Nat → Int32) → (Nat → Int32) → (Nat → Int32) → (Nat → Int32) → Option (Int32 × Int32 × Int32 × Int32 × Int32 × Int32 × (Nat → Int32) × (Nat → Int32) × (Nat → Int32) × (Nat → Int32))) (rec139 : Int32 → Int32 → Int32 → Int32 → Int32 → Int32 → Int32 → Int32 → Int32 → Int32 → (Nat → Int32) → (Nat → Int32) → (Nat → Int32) → (Nat → Int32) → Option (Int32 × Int32 × Int32 × Int32 × Int32 × Int32 × (Nat → Int32) × (Nat → Int32) × (Nat → Int32) × (Nat → Int32))) (x1 : Int32) (x2 : Int32) (x3 : Int32) (x4 : Int32) (x5 : Int32) (j_out : Int32) (j_made : Int32) (j_known : Int32) (j_fat : Int32) (j_flong : Int32) (jo_f : Nat → Int32) (jm_f : Nat → Int32) (jn_f : Nat → Int32) (jf_f : Nat → Int32) : Option (Int32 × Int32 × Int32 × Int32 × Int32 × Int32 × (Nat → Int32) × (Nat → Int32) × (Nat → Int32) × (Nat → Int32)) :=
  if x3 ≤ x5 then
    rec81 x1 x2 x3 (x4 + x1) j_out j_made j_known j_fat j_flong jo_f jm_f jn_f jf_f
  else
    tp_b2 (m_Mo_put (0 : Int32) j_made jm_f) fun j_made_42 jm_f_43 =>
    rec139 x1 x2 x3 x4 (x5 + (1 : Int32)) j_out j_made_42 j_known j_fat j_flong jo_f jm_f_43 jn_f jf_f
noncomputable def m_Mo_chunks_115 (N : Nat) (j_in : Int32) (ji_f : Nat → Int32) (rec81 : Int32 → Int32 → Int32 → Int32 → Int32 → Int32 → Int32 → Int32 → Int32 → (Nat → Int32) → (Nat → Int32) → (Nat → Int32) → (Nat → Int32) → Option (Int32 × Int32 × Int32 × Int32 × Int32 × Int32 × (Nat → Int32) × (Nat → Int32) × (Nat → Int32) × (Nat → Int32))) (x1 : Int32) (x2 : Int32) (x3 : Int32) (x4 : Int32) (k1 : Int32) (k2 : Int32) (j_out : Int32) (j_made : Int32) (j_known : Int32) (j_fat : Int32) (j_flong : Int32) (jo_f : Nat → Int32) (jm_f : Nat → Int32) (jn_f : Nat → Int32) (jf_f : Nat → Int32) : Option (Int32 × Int32 × Int32 × Int32 × Int32 × Int32 × (Nat → Int32) × (Nat → Int32) × (Nat → Int32) × (Nat → Int32)) :=
  tp_b7 (m_Mo_putRow N k1 k2 x2 j_made j_known j_fat j_flong ji_f jm_f jn_f jf_f) fun j_made_26 j_known_27 j_fat_28 j_flong_29 jm_f_30 jn_f_31 jf_f_32 =>
  if x3 ≤ 0 then
    rec81 x1 x2 x3 (x4 + x1) j_out j_made_26 j_known_27 j_fat_28 j_flong_29 jo_f jm_f_30 jn_f_31 jf_f_32
  else
    tp_b2 (m_Mo_put (254 : Int32) j_made_26 jm_f_30) fun j_made_35 jm_f_36 =>
    tp_b2 (m_Mo_putNumber N x3 (3 : Int32) j_made_35 jm_f_36) fun j_made_38 jm_f_39 =>
    tp_it14 (m_Mo_chunks_139 N j_in ji_f rec81) N x1 x2 x3 x4 (0 : Int32) j_out j_made_38 j_known_27 j_fat_28 j_flong_29 jo_f jm_f_39 jn_f_31 jf_f_32
noncomputable def m_Mo_chunks_81 (N : Nat) (j_in : Int32) (ji_f : Nat → Int32) (rec81 : Int32 → Int32 → Int32 → Int32 → Int32 → Int32 → Int32 → Int32 → Int32 → (Nat → Int32) → (Nat → Int32) → (Nat → Int32) → (Nat → Int32) → Option (Int32 × Int32 × Int32 × Int32 × Int32 × Int32 × (Nat → Int32) × (Nat → Int32) × (Nat → Int32) × (Nat → Int32))) (x1 : Int32) (x2 : Int32) (x3 : Int32) (x4 : Int32) (j_out : Int32) (j_made : Int32) (j_known : Int32) (j_fat : Int32) (j_flong : Int32) (jo_f : Nat → Int32) (jm_f : Nat → Int32) (jn_f : Nat → Int32) (jf_f : Nat → Int32) : Option (Int32 × Int32 × Int32 × Int32 × Int32 × Int32 × (Nat → Int32) × (Nat → Int32) × (Nat → Int32) × (Nat → Int32)) :=
  if j_in ≤ x4 then
    if j_made ≤ (10000 : Int32) then
      tp_b3 (m_Mo_settle N j_out j_made jo_f jm_f) fun r21 j_out_22 jo_f_23 =>
      some (r21, j_out_22, j_made, j_known, j_fat, j_flong, jo_f_23, jm_f, jn_f, jf_f)
    else
      some ((-1 : Int32), j_out, j_made, j_known, j_fat, j_flong, jo_f, jm_f, jn_f, jf_f)
  else
    if j_in ≤ (x4 + x1) then
      m_Mo_chunks_115 N j_in ji_f rec81 x1 x2 x3 x4 x4 j_in j_out j_made j_known j_fat j_flong jo_f jm_f jn_f jf_f
    else
      m_Mo_chunks_115 N j_in ji_f rec81 x1 x2 x3 x4 x4 (x4 + x1) j_out j_made j_known j_fat j_flong jo_f jm_f jn_f jf_f
noncomputable def m_Mo_chunks_56 (N : Nat) (j_in : Int32) (ji_f : Nat → Int32) (rec56 : Int32 → Int32 → Int32 → Int32 → Int32 → Int32 → Int32 → Int32 → Int32 → (Nat → Int32) → (Nat → Int32) → (Nat → Int32) → (Nat → Int32) → Option (Int32 × Int32 × Int32 × Int32 × Int32 × Int32 × (Nat → Int32) × (Nat → Int32) × (Nat → Int32) × (Nat → Int32))) (x1 : Int32) (x2 : Int32) (x3 : Int32) (x4 : Int32) (j_out : Int32) (j_made : Int32) (j_known : Int32) (j_fat : Int32) (j_flong : Int32) (jo_f : Nat → Int32) (jm_f : Nat → Int32) (jn_f : Nat → Int32) (jf_f : Nat → Int32) : Option (Int32 × Int32 × Int32 × Int32 × Int32 × Int32 × (Nat → Int32) × (Nat → Int32) × (Nat → Int32) × (Nat → Int32)) :=
  if (6 : Int32) ≤ x4 then
    tp_it13 (m_Mo_chunks_81 N j_in ji_f ) N x1 x2 x3 (0 : Int32) j_out j_made j_known j_fat j_flong jo_f jm_f jn_f jf_f
  else
    tp_b1 (m_Mo_mark x4) fun r14 =>
    tp_b2 (m_Mo_put r14 j_made jm_f) fun j_made_16 jm_f_17 =>
    rec56 x1 x2 x3 (x4 + (1 : Int32)) j_out j_made_16 j_known j_fat j_flong jo_f jm_f_17 jn_f jf_f
noncomputable def m_Mo_chunks (N : Nat) (x1 : Int32) (x2 : Int32) (x3 : Int32) (j_in : Int32) (j_out : Int32) (j_made : Int32) (j_known : Int32) (j_fat : Int32) (j_flong : Int32) (ji_f : Nat → Int32) (jo_f : Nat → Int32) (jm_f : Nat → Int32) (jn_f : Nat → Int32) (jf_f : Nat → Int32) : Option (Int32 × Int32 × Int32 × Int32 × Int32 × Int32 × (Nat → Int32) × (Nat → Int32) × (Nat → Int32) × (Nat → Int32)) :=
  if x1 < (1 : Int32) then
    some ((-1 : Int32), j_out, j_made, j_known, j_fat, j_flong, jo_f, jm_f, jn_f, jf_f)
  else
    if (10000 : Int32) < x1 then
      some ((-1 : Int32), j_out, j_made, j_known, j_fat, j_flong, jo_f, jm_f, jn_f, jf_f)
    else
      if x3 < 0 then
        some ((-1 : Int32), j_out, j_made, j_known, j_fat, j_flong, jo_f, jm_f, jn_f, jf_f)
      else
        if (255 : Int32) < x3 then
          some ((-1 : Int32), j_out, j_made, j_known, j_fat, j_flong, jo_f, jm_f, jn_f, jf_f)
        else
          if x2 < 0 then
            some ((-1 : Int32), j_out, j_made, j_known, j_fat, j_flong, jo_f, jm_f, jn_f, jf_f)
          else
            if x2 ≤ (3 : Int32) then
              tp_b2 (m_Mo_put (255 : Int32) (0 : Int32) jm_f) fun j_made_7 jm_f_8 =>
              tp_b2 (m_Mo_putNumber N (6 : Int32) (3 : Int32) j_made_7 jm_f_8) fun j_made_10 jm_f_11 =>
              tp_it13 (m_Mo_chunks_56 N j_in ji_f ) N x1 x2 x3 (0 : Int32) j_out j_made_10 j_known j_fat j_flong jo_f jm_f_11 jn_f jf_f
            else
              some ((-1 : Int32), j_out, j_made, j_known, j_fat, j_flong, jo_f, jm_f, jn_f, jf_f)
section
variable {p : Program} {l : Launch} {e : Env} {s : State} {m : MethodId} {args : Array Value} {below : List Frame} {meth : Method} {c : Code} {A : Nat → Prop} {D : va_G} {cB cI : ClassId} {tM : Nat}
set_option maxHeartbeats 4000000 in
set_option maxRecDepth 100000 in
theorem w_Mo_chunks_139 {q_j q_ji q_jo q_jm q_jn q_jf : Nat} {j_in : Int32} {j_told : Int32} {j_at : Int32} {j_end : Int32} {j_fault : Int32} {j_fp : Int32} {ji_f : Nat → Int32} {N : Nat} {r : Int32} {j_out' : Int32} {j_made' : Int32} {j_known' : Int32} {j_fat' : Int32} {j_flong' : Int32} {jo_f' : Nat → Int32} {jm_f' : Nat → Int32} {jn_f' : Nat → Int32} {jf_f' : Nat → Int32} {rec81 : Int32 → Int32 → Int32 → Int32 → Int32 → Int32 → Int32 → Int32 → Int32 → (Nat → Int32) → (Nat → Int32) → (Nat → Int32) → (Nat → Int32) → Option (Int32 × Int32 × Int32 × Int32 × Int32 × Int32 × (Nat → Int32) × (Nat → Int32) × (Nat → Int32) × (Nat → Int32))} (hF2 : tp_F p m c c_Mo_chunks 6 s args tpG R_Mo meth (some .int)) (ih81 : ∀ (x1 : Int32) (x2 : Int32) (x3 : Int32) (x4 : Int32) (j_out : Int32) (j_made : Int32) (j_known : Int32) (j_fat : Int32) (j_flong : Int32) (jo_f : Nat → Int32) (jm_f : Nat → Int32) (jn_f : Nat → Int32) (jf_f : Nat → Int32) (H : Heap) (locs : List Loc) (ls : Array Slot), rec81 x1 x2 x3 x4 j_out j_made j_known j_fat j_flong jo_f jm_f jn_f jf_f = some (r, j_out', j_made', j_known', j_fat', j_flong', jo_f', jm_f', jn_f', jf_f') → tp_Wd D (tp_ty cB cI) tM A s H locs [(q_j, .inr (7, [.ref q_ji, .int j_in, .ref q_jo, .int j_out, .ref q_jm, .int j_made, .ref q_jn, .ref q_jf, .int j_known, .int j_fat, .int j_flong, .int j_told, .int j_at, .int j_end, .int j_fault, .int j_fp])), (q_ji, .inl (cB, 10000, .inl ji_f)), (q_jo, .inl (cB, 10000, .inl jo_f)), (q_jm, .inl (cB, 20000, .inl jm_f)), (q_jn, .inl (cI, 10001, .inl jn_f)), (q_jf, .inl (cI, 10001, .inl jf_f))] → lv_has ls 6 [(0, .ref q_j), (1, .int x1), (2, .int x2), (3, .int x3), (4, .int x4)] → W p l e rm_Mo_chunks s m args below meth c H locs 0 0 (MQ below (tp_Qi D A r [(q_j, .inr (7, [.ref q_ji, .int j_in, .ref q_jo, .int j_out', .ref q_jm, .int j_made', .ref q_jn, .ref q_jf, .int j_known', .int j_fat', .int j_flong', .int j_told, .int j_at, .int j_end, .int j_fault, .int j_fp])), (q_ji, .inl (cB, 10000, .inl ji_f)), (q_jo, .inl (cB, 10000, .inl jo_f')), (q_jm, .inl (cB, 20000, .inl jm_f')), (q_jn, .inl (cI, 10001, .inl jn_f')), (q_jf, .inl (cI, 10001, .inl jf_f'))]) args s 0 0 A) (F0 m 81 ls [])) : ∀ (n : Nat), ∀ (x1 : Int32) (x2 : Int32) (x3 : Int32) (x4 : Int32) (x5 : Int32) (j_out : Int32) (j_made : Int32) (j_known : Int32) (j_fat : Int32) (j_flong : Int32) (jo_f : Nat → Int32) (jm_f : Nat → Int32) (jn_f : Nat → Int32) (jf_f : Nat → Int32) (H : Heap) (locs : List Loc) (ls : Array Slot), tp_it14 (m_Mo_chunks_139 N j_in ji_f rec81) n x1 x2 x3 x4 x5 j_out j_made j_known j_fat j_flong jo_f jm_f jn_f jf_f = some (r, j_out', j_made', j_known', j_fat', j_flong', jo_f', jm_f', jn_f', jf_f') → tp_Wd D (tp_ty cB cI) tM A s H locs [(q_j, .inr (7, [.ref q_ji, .int j_in, .ref q_jo, .int j_out, .ref q_jm, .int j_made, .ref q_jn, .ref q_jf, .int j_known, .int j_fat, .int j_flong, .int j_told, .int j_at, .int j_end, .int j_fault, .int j_fp])), (q_ji, .inl (cB, 10000, .inl ji_f)), (q_jo, .inl (cB, 10000, .inl jo_f)), (q_jm, .inl (cB, 20000, .inl jm_f)), (q_jn, .inl (cI, 10001, .inl jn_f)), (q_jf, .inl (cI, 10001, .inl jf_f))] → lv_has ls 6 [(0, .ref q_j), (1, .int x1), (2, .int x2), (3, .int x3), (4, .int x4), (5, .int x5)] → W p l e rm_Mo_chunks s m args below meth c H locs 0 0 (MQ below (tp_Qi D A r [(q_j, .inr (7, [.ref q_ji, .int j_in, .ref q_jo, .int j_out', .ref q_jm, .int j_made', .ref q_jn, .ref q_jf, .int j_known', .int j_fat', .int j_flong', .int j_told, .int j_at, .int j_end, .int j_fault, .int j_fp])), (q_ji, .inl (cB, 10000, .inl ji_f)), (q_jo, .inl (cB, 10000, .inl jo_f')), (q_jm, .inl (cB, 20000, .inl jm_f')), (q_jn, .inl (cI, 10001, .inl jn_f')), (q_jf, .inl (cI, 10001, .inl jf_f'))]) args s 0 0 A) (F0 m 139 ls []) := by
  obtain ⟨hF, hr, hlocks⟩ := id hF2
  obtain ⟨hx, hb, hml, hown, hts⟩ := id hF
  intro n
  induction n with
  | zero => intro x1 x2 x3 x4 x5 j_out j_made j_known j_fat j_flong jo_f jm_f jn_f jf_f H locs ls hm; exact absurd hm (by simp [tp_it14])
  | succ n ih139 =>
    intro x1 x2 x3 x4 x5 j_out j_made j_known j_fat j_flong jo_f jm_f jn_f jf_f H locs ls hm hw hl
    replace hm : m_Mo_chunks_139 N j_in ji_f rec81 (tp_it14 (m_Mo_chunks_139 N j_in ji_f rec81) n) x1 x2 x3 x4 x5 j_out j_made j_known j_fat j_flong jo_f jm_f jn_f jf_f = some (r, j_out', j_made', j_known', j_fat', j_flong', jo_f', jm_f', jn_f', jf_f') := hm
    unfold m_Mo_chunks_139 at hm
    refine lv_iload hx hb d_Mo_chunks_139 (lv_at hl 5 rfl) ?_
    refine lv_iload_n hx hb d_Mo_chunks_141 rfl (lv_at hl 3 rfl) ?_
    refine lv_icmp_ge (tgt := 156) hx hb d_Mo_chunks_142 (by decide +kernel) (fun hc41 => ?_) (fun hc41 => ?_)
    · replace hm := tp_it hc41 hm
      refine lv_iload hx hb d_Mo_chunks_156 (lv_at hl 4 rfl) ?_
      refine lv_iload_n hx hb d_Mo_chunks_158 rfl (lv_at hl 1 rfl) ?_
      refine lv_iadd hx hb d_Mo_chunks_159 ?_
      refine lv_istore (lv' := [(4, .int (x4 + x1)), (0, .ref q_j), (1, .int x1), (2, .int x2), (3, .int x3), (5, .int x5)]) hx hb d_Mo_chunks_160 hl (by decide +kernel) rfl (fun ls hl => ?_)
      refine lv_goto (tgt := 81) hx hb d_Mo_chunks_162 (by decide +kernel) ?_
      exact ih81 _ _ _ _ _ _ _ _ _ _ _ _ _ _ _ _ hm hw (lv_sub hl [1, 2, 3, 4, 0] rfl)
    · replace hm := tp_if hc41 hm
      refine lv_aload_n hx hb d_Mo_chunks_145 rfl (lv_at hl 0 rfl) ?_
      refine lv_iconst (v := (0 : Int32)) hx hb d_Mo_chunks_146 (by decide +kernel) ?_
      obtain ⟨j_made_42, jm_f_43, hm44, hm⟩ := tp_b2_e hm
      refine tp_callv (wr := []) (WS' := [(q_j, .inr (7, [.ref q_ji, .int j_in, .ref q_jo, .int j_out, .ref q_jm, .int j_made_42, .ref q_jn, .ref q_jf, .int j_known, .int j_fat, .int j_flong, .int j_told, .int j_at, .int j_end, .int j_fault, .int j_fp])), (q_ji, .inl (cB, 10000, .inl ji_f)), (q_jo, .inl (cB, 10000, .inl jo_f)), (q_jm, .inl (cB, 20000, .inl jm_f_43)), (q_jn, .inl (cI, 10001, .inl jn_f)), (q_jf, .inl (cI, 10001, .inl jf_f))]) (va_runV (As := [.int (0 : Int32)]) (rest := []) hF (ct_Mo_put (l := l) (D := D) (cB := cB) (cI := cI) (tM := tM) (q_j := q_j) (q_ji := q_ji) (q_jo := q_jo) (q_jm := q_jm) (q_jn := q_jn) (q_jf := q_jf) (j_in := j_in) (j_out := j_out) (j_made := j_made) (j_known := j_known) (j_fat := j_fat) (j_flong := j_flong) (j_told := j_told) (j_at := j_at) (j_end := j_end) (j_fault := j_fault) (j_fp := j_fp) (ji_f := ji_f) (jo_f := jo_f) (jm_f := jm_f) (jn_f := jn_f) (jf_f := jf_f) (x1 := (0 : Int32)) (j_made' := j_made_42) (jm_f' := jm_f_43) hm44 _) (cwV 1 hts (tpG_V wd_341 wd_342 wd_343 wd_340 wd_339) rfl rfl rfl ⟨rfl, yd_Mo_put⟩ ⟨Nat.le_of_ble_eq_true rfl, Nat.le_of_ble_eq_true rfl⟩) ⟨tp_blind, va_recv hw.1 hw.2.1 (ci := 7) (q0 := 0) rfl rfl, tp_pre hw [0, 1, 2, 3, 4, 5] rfl rfl⟩ rfl rfl hl.1 rfl (lv_room (Nat.le_of_ble_eq_true rfl)) d_Mo_chunks_147 ⟨Nat.le_of_ble_eq_true rfl, Nat.le_of_ble_eq_true rfl⟩) hw [0, 1, 2, 3, 4, 5] [] [0, 1, 2, 3, 4, 5] rfl rfl rfl (by decide) rfl rfl (fun H locs hw => ?_)
      refine lv_iinc (v := (x5 + (1 : Int32))) (lv' := [(5, .int (x5 + (1 : Int32))), (0, .ref q_j), (1, .int x1), (2, .int x2), (3, .int x3), (4, .int x4)]) hx hb d_Mo_chunks_150 hl (k := 5) rfl rfl (by decide +kernel) rfl (fun ls hl => ?_)
      refine lv_goto (tgt := 139) hx hb d_Mo_chunks_153 (by decide +kernel) ?_
      exact ih139 _ _ _ _ _ _ _ _ _ _ _ _ _ _ _ _ _ hm hw (lv_sub hl [1, 2, 3, 4, 5, 0] rfl)
set_option maxHeartbeats 4000000 in
set_option maxRecDepth 100000 in
theorem w_Mo_chunks_115 {q_j q_ji q_jo q_jm q_jn q_jf : Nat} {j_in : Int32} {j_told : Int32} {j_at : Int32} {j_end : Int32} {j_fault : Int32} {j_fp : Int32} {ji_f : Nat → Int32} {N : Nat} {r : Int32} {j_out' : Int32} {j_made' : Int32} {j_known' : Int32} {j_fat' : Int32} {j_flong' : Int32} {jo_f' : Nat → Int32} {jm_f' : Nat → Int32} {jn_f' : Nat → Int32} {jf_f' : Nat → Int32} {rec81 : Int32 → Int32 → Int32 → Int32 → Int32 → Int32 → Int32 → Int32 → Int32 → (Nat → Int32) → (Nat → Int32) → (Nat → Int32) → (Nat → Int32) → Option (Int32 × Int32 × Int32 × Int32 × Int32 × Int32 × (Nat → Int32) × (Nat → Int32) × (Nat → Int32) × (Nat → Int32))} (hF2 : tp_F p m c c_Mo_chunks 6 s args tpG R_Mo meth (some .int)) (ih81 : ∀ (x1 : Int32) (x2 : Int32) (x3 : Int32) (x4 : Int32) (j_out : Int32) (j_made : Int32) (j_known : Int32) (j_fat : Int32) (j_flong : Int32) (jo_f : Nat → Int32) (jm_f : Nat → Int32) (jn_f : Nat → Int32) (jf_f : Nat → Int32) (H : Heap) (locs : List Loc) (ls : Array Slot), rec81 x1 x2 x3 x4 j_out j_made j_known j_fat j_flong jo_f jm_f jn_f jf_f = some (r, j_out', j_made', j_known', j_fat', j_flong', jo_f', jm_f', jn_f', jf_f') → tp_Wd D (tp_ty cB cI) tM A s H locs [(q_j, .inr (7, [.ref q_ji, .int j_in, .ref q_jo, .int j_out, .ref q_jm, .int j_made, .ref q_jn, .ref q_jf, .int j_known, .int j_fat, .int j_flong, .int j_told, .int j_at, .int j_end, .int j_fault, .int j_fp])), (q_ji, .inl (cB, 10000, .inl ji_f)), (q_jo, .inl (cB, 10000, .inl jo_f)), (q_jm, .inl (cB, 20000, .inl jm_f)), (q_jn, .inl (cI, 10001, .inl jn_f)), (q_jf, .inl (cI, 10001, .inl jf_f))] → lv_has ls 6 [(0, .ref q_j), (1, .int x1), (2, .int x2), (3, .int x3), (4, .int x4)] → W p l e rm_Mo_chunks s m args below meth c H locs 0 0 (MQ below (tp_Qi D A r [(q_j, .inr (7, [.ref q_ji, .int j_in, .ref q_jo, .int j_out', .ref q_jm, .int j_made', .ref q_jn, .ref q_jf, .int j_known', .int j_fat', .int j_flong', .int j_told, .int j_at, .int j_end, .int j_fault, .int j_fp])), (q_ji, .inl (cB, 10000, .inl ji_f)), (q_jo, .inl (cB, 10000, .inl jo_f')), (q_jm, .inl (cB, 20000, .inl jm_f')), (q_jn, .inl (cI, 10001, .inl jn_f')), (q_jf, .inl (cI, 10001, .inl jf_f'))]) args s 0 0 A) (F0 m 81 ls [])) : ∀ (x1 : Int32) (x2 : Int32) (x3 : Int32) (x4 : Int32) (k1 : Int32) (k2 : Int32) (j_out : Int32) (j_made : Int32) (j_known : Int32) (j_fat : Int32) (j_flong : Int32) (jo_f : Nat → Int32) (jm_f : Nat → Int32) (jn_f : Nat → Int32) (jf_f : Nat → Int32) (H : Heap) (locs : List Loc) (ls : Array Slot), m_Mo_chunks_115 N j_in ji_f rec81 x1 x2 x3 x4 k1 k2 j_out j_made j_known j_fat j_flong jo_f jm_f jn_f jf_f = some (r, j_out', j_made', j_known', j_fat', j_flong', jo_f', jm_f', jn_f', jf_f') → tp_Wd D (tp_ty cB cI) tM A s H locs [(q_j, .inr (7, [.ref q_ji, .int j_in, .ref q_jo, .int j_out, .ref q_jm, .int j_made, .ref q_jn, .ref q_jf, .int j_known, .int j_fat, .int j_flong, .int j_told, .int j_at, .int j_end, .int j_fault, .int j_fp])), (q_ji, .inl (cB, 10000, .inl ji_f)), (q_jo, .inl (cB, 10000, .inl jo_f)), (q_jm, .inl (cB, 20000, .inl jm_f)), (q_jn, .inl (cI, 10001, .inl jn_f)), (q_jf, .inl (cI, 10001, .inl jf_f))] → lv_has ls 6 [(0, .ref q_j), (1, .int x1), (2, .int x2), (3, .int x3), (4, .int x4)] → W p l e rm_Mo_chunks s m args below meth c H locs 0 0 (MQ below (tp_Qi D A r [(q_j, .inr (7, [.ref q_ji, .int j_in, .ref q_jo, .int j_out', .ref q_jm, .int j_made', .ref q_jn, .ref q_jf, .int j_known', .int j_fat', .int j_flong', .int j_told, .int j_at, .int j_end, .int j_fault, .int j_fp])), (q_ji, .inl (cB, 10000, .inl ji_f)), (q_jo, .inl (cB, 10000, .inl jo_f')), (q_jm, .inl (cB, 20000, .inl jm_f')), (q_jn, .inl (cI, 10001, .inl jn_f')), (q_jf, .inl (cI, 10001, .inl jf_f'))]) args s 0 0 A) (F0 m 115 ls [.int k2, .int k1, .ref q_j]) := by
  obtain ⟨hF, hr, hlocks⟩ := id hF2
  obtain ⟨hx, hb, hml, hown, hts⟩ := id hF
  intro x1 x2 x3 x4 k1 k2 j_out j_made j_known j_fat j_flong jo_f jm_f jn_f jf_f H locs ls hm hw hl
  unfold m_Mo_chunks_115 at hm
  refine lv_iload_n hx hb d_Mo_chunks_115 rfl (lv_at hl 2 rfl) ?_
  obtain ⟨j_made_26, j_known_27, j_fat_28, j_flong_29, jm_f_30, jn_f_31, jf_f_32, hm33, hm⟩ := tp_b7_e hm
  refine tp_callv (wr := []) (WS' := [(q_j, .inr (7, [.ref q_ji, .int j_in, .ref q_jo, .int j_out, .ref q_jm, .int j_made_26, .ref q_jn, .ref q_jf, .int j_known_27, .int j_fat_28, .int j_flong_29, .int j_told, .int j_at, .int j_end, .int j_fault, .int j_fp])), (q_ji, .inl (cB, 10000, .inl ji_f)), (q_jo, .inl (cB, 10000, .inl jo_f)), (q_jm, .inl (cB, 20000, .inl jm_f_30)), (q_jn, .inl (cI, 10001, .inl jn_f_31)), (q_jf, .inl (cI, 10001, .inl jf_f_32))]) (va_runV (As := [.int k1, .int k2, .int x2]) (rest := []) hF (ct_Mo_putRow (l := l) (D := D) (cB := cB) (cI := cI) (tM := tM) (q_j := q_j) (q_ji := q_ji) (q_jo := q_jo) (q_jm := q_jm) (q_jn := q_jn) (q_jf := q_jf) (j_in := j_in) (j_out := j_out) (j_made := j_made) (j_known := j_known) (j_fat := j_fat) (j_flong := j_flong) (j_told := j_told) (j_at := j_at) (j_end := j_end) (j_fault := j_fault) (j_fp := j_fp) (ji_f := ji_f) (jo_f := jo_f) (jm_f := jm_f) (jn_f := jn_f) (jf_f := jf_f) (x1 := k1) (x2 := k2) (x3 := x2) (N := N) (j_made' := j_made_26) (j_known' := j_known_27) (j_fat' := j_fat_28) (j_flong' := j_flong_29) (jm_f' := jm_f_30) (jn_f' := jn_f_31) (jf_f' := jf_f_32) hm33 _) (cwV 3 hts (tpG_V wd_458 wd_459 wd_460 wd_340 wd_457) rfl rfl rfl ⟨rfl, yd_Mo_putRow⟩ ⟨Nat.le_of_ble_eq_true rfl, Nat.le_of_ble_eq_true rfl⟩) ⟨tp_blind, va_recv hw.1 hw.2.1 (ci := 7) (q0 := 0) rfl rfl, tp_pre hw [0, 1, 2, 3, 4, 5] rfl rfl⟩ rfl rfl hl.1 rfl (lv_room (Nat.le_of_ble_eq_true rfl)) d_Mo_chunks_116 ⟨Nat.le_of_ble_eq_true rfl, Nat.le_of_ble_eq_true rfl⟩) hw [0, 1, 2, 3, 4, 5] [] [0, 1, 2, 3, 4, 5] rfl rfl rfl (by decide) rfl rfl (fun H locs hw => ?_)
  refine lv_iload_n hx hb d_Mo_chunks_119 rfl (lv_at hl 3 rfl) ?_
  refine lv_if_le (tgt := 156) hx hb d_Mo_chunks_120 (by decide +kernel) (fun hc34 => ?_) (fun hc34 => ?_)
  · replace hm := tp_it hc34 hm
    refine lv_iload hx hb d_Mo_chunks_156 (lv_at hl 4 rfl) ?_
    refine lv_iload_n hx hb d_Mo_chunks_158 rfl (lv_at hl 1 rfl) ?_
    refine lv_iadd hx hb d_Mo_chunks_159 ?_
    refine lv_istore (lv' := [(4, .int (x4 + x1)), (0, .ref q_j), (1, .int x1), (2, .int x2), (3, .int x3)]) hx hb d_Mo_chunks_160 hl (by decide +kernel) rfl (fun ls hl => ?_)
    refine lv_goto (tgt := 81) hx hb d_Mo_chunks_162 (by decide +kernel) ?_
    exact ih81 _ _ _ _ _ _ _ _ _ _ _ _ _ _ _ _ hm hw (lv_sub hl [1, 2, 3, 4, 0] rfl)
  · replace hm := tp_if hc34 hm
    refine lv_aload_n hx hb d_Mo_chunks_123 rfl (lv_at hl 0 rfl) ?_
    refine lv_sipush (v := (254 : Int32)) hx hb d_Mo_chunks_124 (by decide +kernel) ?_
    obtain ⟨j_made_35, jm_f_36, hm37, hm⟩ := tp_b2_e hm
    refine tp_callv (wr := []) (WS' := [(q_j, .inr (7, [.ref q_ji, .int j_in, .ref q_jo, .int j_out, .ref q_jm, .int j_made_35, .ref q_jn, .ref q_jf, .int j_known_27, .int j_fat_28, .int j_flong_29, .int j_told, .int j_at, .int j_end, .int j_fault, .int j_fp])), (q_ji, .inl (cB, 10000, .inl ji_f)), (q_jo, .inl (cB, 10000, .inl jo_f)), (q_jm, .inl (cB, 20000, .inl jm_f_36)), (q_jn, .inl (cI, 10001, .inl jn_f_31)), (q_jf, .inl (cI, 10001, .inl jf_f_32))]) (va_runV (As := [.int (254 : Int32)]) (rest := []) hF (ct_Mo_put (l := l) (D := D) (cB := cB) (cI := cI) (tM := tM) (q_j := q_j) (q_ji := q_ji) (q_jo := q_jo) (q_jm := q_jm) (q_jn := q_jn) (q_jf := q_jf) (j_in := j_in) (j_out := j_out) (j_made := j_made_26) (j_known := j_known_27) (j_fat := j_fat_28) (j_flong := j_flong_29) (j_told := j_told) (j_at := j_at) (j_end := j_end) (j_fault := j_fault) (j_fp := j_fp) (ji_f := ji_f) (jo_f := jo_f) (jm_f := jm_f_30) (jn_f := jn_f_31) (jf_f := jf_f_32) (x1 := (254 : Int32)) (j_made' := j_made_35) (jm_f' := jm_f_36) hm37 _) (cwV 1 hts (tpG_V wd_341 wd_342 wd_343 wd_340 wd_339) rfl rfl rfl ⟨rfl, yd_Mo_put⟩ ⟨Nat.le_of_ble_eq_true rfl, Nat.le_of_ble_eq_true rfl⟩) ⟨tp_blind, va_recv hw.1 hw.2.1 (ci := 7) (q0 := 0) rfl rfl, tp_pre hw [0, 1, 2, 3, 4, 5] rfl rfl⟩ rfl rfl hl.1 rfl (lv_room (Nat.le_of_ble_eq_true rfl)) d_Mo_chunks_127 ⟨Nat.le_of_ble_eq_true rfl, Nat.le_of_ble_eq_true rfl⟩) hw [0, 1, 2, 3, 4, 5] [] [0, 1, 2, 3, 4, 5] rfl rfl rfl (by decide) rfl rfl (fun H locs hw => ?_)
    refine lv_aload_n hx hb d_Mo_chunks_130 rfl (lv_at hl 0 rfl) ?_
    refine lv_iload_n hx hb d_Mo_chunks_131 rfl (lv_at hl 3 rfl) ?_
    refine lv_iconst (v := (3 : Int32)) hx hb d_Mo_chunks_132 (by decide +kernel) ?_
    obtain ⟨j_made_38, jm_f_39, hm40, hm⟩ := tp_b2_e hm
    refine tp_callv (wr := []) (WS' := [(q_j, .inr (7, [.ref q_ji, .int j_in, .ref q_jo, .int j_out, .ref q_jm, .int j_made_38, .ref q_jn, .ref q_jf, .int j_known_27, .int j_fat_28, .int j_flong_29, .int j_told, .int j_at, .int j_end, .int j_fault, .int j_fp])), (q_ji, .inl (cB, 10000, .inl ji_f)), (q_jo, .inl (cB, 10000, .inl jo_f)), (q_jm, .inl (cB, 20000, .inl jm_f_39)), (q_jn, .inl (cI, 10001, .inl jn_f_31)), (q_jf, .inl (cI, 10001, .inl jf_f_32))]) (va_runV (As := [.int x3, .int (3 : Int32)]) (rest := []) hF (ct_Mo_putNumber (l := l) (D := D) (cB := cB) (cI := cI) (tM := tM) (q_j := q_j) (q_ji := q_ji) (q_jo := q_jo) (q_jm := q_jm) (q_jn := q_jn) (q_jf := q_jf) (j_in := j_in) (j_out := j_out) (j_made := j_made_35) (j_known := j_known_27) (j_fat := j_fat_28) (j_flong := j_flong_29) (j_told := j_told) (j_at := j_at) (j_end := j_end) (j_fault := j_fault) (j_fp := j_fp) (ji_f := ji_f) (jo_f := jo_f) (jm_f := jm_f_36) (jn_f := jn_f_31) (jf_f := jf_f_32) (x1 := x3) (x2 := (3 : Int32)) (N := N) (j_made' := j_made_38) (jm_f' := jm_f_39) hm40 _) (cwV 2 hts (tpG_V wd_378 wd_379 wd_380 wd_340 wd_377) rfl rfl rfl ⟨rfl, yd_Mo_putNumber⟩ ⟨Nat.le_of_ble_eq_true rfl, Nat.le_of_ble_eq_true rfl⟩) ⟨tp_blind, va_recv hw.1 hw.2.1 (ci := 7) (q0 := 0) rfl rfl, tp_pre hw [0, 1, 2, 3, 4, 5] rfl rfl⟩ rfl rfl hl.1 rfl (lv_room (Nat.le_of_ble_eq_true rfl)) d_Mo_chunks_133 ⟨Nat.le_of_ble_eq_true rfl, Nat.le_of_ble_eq_true rfl⟩) hw [0, 1, 2, 3, 4, 5] [] [0, 1, 2, 3, 4, 5] rfl rfl rfl (by decide) rfl rfl (fun H locs hw => ?_)
    refine lv_iconst (v := (0 : Int32)) hx hb d_Mo_chunks_136 (by decide +kernel) ?_
    refine lv_istore (lv' := [(5, .int (0 : Int32)), (0, .ref q_j), (1, .int x1), (2, .int x2), (3, .int x3), (4, .int x4)]) hx hb d_Mo_chunks_137 hl (by decide +kernel) rfl (fun ls hl => ?_)
    exact w_Mo_chunks_139 hF2 ih81 N _ _ _ _ _ _ _ _ _ _ _ _ _ _ _ _ _ hm hw (lv_sub hl [1, 2, 3, 4, 5, 0] rfl)
set_option maxHeartbeats 4000000 in
set_option maxRecDepth 100000 in
theorem w_Mo_chunks_81 {q_j q_ji q_jo q_jm q_jn q_jf : Nat} {j_in : Int32} {j_told : Int32} {j_at : Int32} {j_end : Int32} {j_fault : Int32} {j_fp : Int32} {ji_f : Nat → Int32} {N : Nat} {r : Int32} {j_out' : Int32} {j_made' : Int32} {j_known' : Int32} {j_fat' : Int32} {j_flong' : Int32} {jo_f' : Nat → Int32} {jm_f' : Nat → Int32} {jn_f' : Nat → Int32} {jf_f' : Nat → Int32} (hF2 : tp_F p m c c_Mo_chunks 6 s args tpG R_Mo meth (some .int)) : ∀ (n : Nat), ∀ (x1 : Int32) (x2 : Int32) (x3 : Int32) (x4 : Int32) (j_out : Int32) (j_made : Int32) (j_known : Int32) (j_fat : Int32) (j_flong : Int32) (jo_f : Nat → Int32) (jm_f : Nat → Int32) (jn_f : Nat → Int32) (jf_f : Nat → Int32) (H : Heap) (locs : List Loc) (ls : Array Slot), tp_it13 (m_Mo_chunks_81 N j_in ji_f ) n x1 x2 x3 x4 j_out j_made j_known j_fat j_flong jo_f jm_f jn_f jf_f = some (r, j_out', j_made', j_known', j_fat', j_flong', jo_f', jm_f', jn_f', jf_f') → tp_Wd D (tp_ty cB cI) tM A s H locs [(q_j, .inr (7, [.ref q_ji, .int j_in, .ref q_jo, .int j_out, .ref q_jm, .int j_made, .ref q_jn, .ref q_jf, .int j_known, .int j_fat, .int j_flong, .int j_told, .int j_at, .int j_end, .int j_fault, .int j_fp])), (q_ji, .inl (cB, 10000, .inl ji_f)), (q_jo, .inl (cB, 10000, .inl jo_f)), (q_jm, .inl (cB, 20000, .inl jm_f)), (q_jn, .inl (cI, 10001, .inl jn_f)), (q_jf, .inl (cI, 10001, .inl jf_f))] → lv_has ls 6 [(0, .ref q_j), (1, .int x1), (2, .int x2), (3, .int x3), (4, .int x4)] → W p l e rm_Mo_chunks s m args below meth c H locs 0 0 (MQ below (tp_Qi D A r [(q_j, .inr (7, [.ref q_ji, .int j_in, .ref q_jo, .int j_out', .ref q_jm, .int j_made', .ref q_jn, .ref q_jf, .int j_known', .int j_fat', .int j_flong', .int j_told, .int j_at, .int j_end, .int j_fault, .int j_fp])), (q_ji, .inl (cB, 10000, .inl ji_f)), (q_jo, .inl (cB, 10000, .inl jo_f')), (q_jm, .inl (cB, 20000, .inl jm_f')), (q_jn, .inl (cI, 10001, .inl jn_f')), (q_jf, .inl (cI, 10001, .inl jf_f'))]) args s 0 0 A) (F0 m 81 ls []) := by
  obtain ⟨hF, hr, hlocks⟩ := id hF2
  obtain ⟨hx, hb, hml, hown, hts⟩ := id hF
  intro n
  induction n with
  | zero => intro x1 x2 x3 x4 j_out j_made j_known j_fat j_flong jo_f jm_f jn_f jf_f H locs ls hm; exact absurd hm (by simp [tp_it13])
  | succ n ih81 =>
    intro x1 x2 x3 x4 j_out j_made j_known j_fat j_flong jo_f jm_f jn_f jf_f H locs ls hm hw hl
    replace hm : m_Mo_chunks_81 N j_in ji_f  (tp_it13 (m_Mo_chunks_81 N j_in ji_f ) n) x1 x2 x3 x4 j_out j_made j_known j_fat j_flong jo_f jm_f jn_f jf_f = some (r, j_out', j_made', j_known', j_fat', j_flong', jo_f', jm_f', jn_f', jf_f') := hm
    unfold m_Mo_chunks_81 at hm
    refine lv_iload hx hb d_Mo_chunks_81 (lv_at hl 4 rfl) ?_
    refine lv_aload_n hx hb d_Mo_chunks_83 rfl (lv_at hl 0 rfl) ?_
    refine tp_get (v := .int j_in) (C := R_Mo) (T := T_Mo) hx hb hts fw_Mo hown hw 0 rfl rfl 1 (by decide +kernel) (hts _ wd_332) rfl d_Mo_chunks_84 ?_
    refine lv_icmp_ge (tgt := 165) hx hb d_Mo_chunks_87 (by decide +kernel) (fun hc19 => ?_) (fun hc19 => ?_)
    · replace hm := tp_it hc19 hm
      refine lv_aload_n hx hb d_Mo_chunks_165 rfl (lv_at hl 0 rfl) ?_
      refine tp_get (v := .int j_made) (C := R_Mo) (T := T_Mo) hx hb hts fw_Mo hown hw 0 rfl rfl 5 (by decide +kernel) (hts _ wd_337) rfl d_Mo_chunks_166 ?_
      refine lv_sipush (v := (10000 : Int32)) hx hb d_Mo_chunks_169 (by decide +kernel) ?_
      refine lv_icmp_le (tgt := 179) hx hb d_Mo_chunks_172 (by decide +kernel) (fun hc20 => ?_) (fun hc20 => ?_)
      · replace hm := tp_it hc20 hm
        refine lv_aload_n hx hb d_Mo_chunks_179 rfl (lv_at hl 0 rfl) ?_
        obtain ⟨r21, j_out_22, jo_f_23, hm24, hm⟩ := tp_b3_e hm
        refine tp_calli (wr := []) (WS' := [(q_j, .inr (7, [.ref q_ji, .int j_in, .ref q_jo, .int j_out_22, .ref q_jm, .int j_made, .ref q_jn, .ref q_jf, .int j_known, .int j_fat, .int j_flong, .int j_told, .int j_at, .int j_end, .int j_fault, .int j_fp])), (q_ji, .inl (cB, 10000, .inl ji_f)), (q_jo, .inl (cB, 10000, .inl jo_f_23)), (q_jm, .inl (cB, 20000, .inl jm_f)), (q_jn, .inl (cI, 10001, .inl jn_f)), (q_jf, .inl (cI, 10001, .inl jf_f))]) (va_runV (As := []) (rest := []) hF (ct_Mo_settle (l := l) (D := D) (cB := cB) (cI := cI) (tM := tM) (q_j := q_j) (q_ji := q_ji) (q_jo := q_jo) (q_jm := q_jm) (q_jn := q_jn) (q_jf := q_jf) (j_in := j_in) (j_out := j_out) (j_made := j_made) (j_known := j_known) (j_fat := j_fat) (j_flong := j_flong) (j_told := j_told) (j_at := j_at) (j_end := j_end) (j_fault := j_fault) (j_fp := j_fp) (ji_f := ji_f) (jo_f := jo_f) (jm_f := jm_f) (jn_f := jn_f) (jf_f := jf_f) (N := N) (r := r21) (j_out' := j_out_22) (jo_f' := jo_f_23) hm24 _) (cwV 0 hts (tpG_V wd_399 wd_400 wd_401 wd_340 wd_398) rfl rfl rfl ⟨rfl, yd_Mo_settle⟩ ⟨Nat.le_of_ble_eq_true rfl, Nat.le_of_ble_eq_true rfl⟩) ⟨tp_blind, va_recv hw.1 hw.2.1 (ci := 7) (q0 := 0) rfl rfl, tp_pre hw [0, 1, 2, 3, 4, 5] rfl rfl⟩ rfl rfl hl.1 rfl (lv_room (Nat.le_of_ble_eq_true rfl)) d_Mo_chunks_180 ⟨Nat.le_of_ble_eq_true rfl, Nat.le_of_ble_eq_true rfl⟩) hw [0, 1, 2, 3, 4, 5] [] [0, 1, 2, 3, 4, 5] rfl rfl rfl (by decide) rfl rfl (fun H locs hw => ?_)
        obtain ⟨rfl, rfl, rfl, rfl, rfl, rfl, rfl, rfl, rfl, rfl⟩ := tp_inj10 hm
        exact tp_iret hx hb hr hlocks hw d_Mo_chunks_183
      · replace hm := tp_if hc20 hm
        refine lv_iconst (v := (-1 : Int32)) hx hb d_Mo_chunks_175 (by decide +kernel) ?_
        refine lv_goto (tgt := 183) hx hb d_Mo_chunks_176 (by decide +kernel) ?_
        obtain ⟨rfl, rfl, rfl, rfl, rfl, rfl, rfl, rfl, rfl, rfl⟩ := tp_inj10 hm
        exact tp_iret hx hb hr hlocks hw d_Mo_chunks_183
    · replace hm := tp_if hc19 hm
      refine lv_aload_n hx hb d_Mo_chunks_90 rfl (lv_at hl 0 rfl) ?_
      refine lv_iload hx hb d_Mo_chunks_91 (lv_at hl 4 rfl) ?_
      refine lv_iload hx hb d_Mo_chunks_93 (lv_at hl 4 rfl) ?_
      refine lv_iload_n hx hb d_Mo_chunks_95 rfl (lv_at hl 1 rfl) ?_
      refine lv_iadd hx hb d_Mo_chunks_96 ?_
      refine lv_aload_n hx hb d_Mo_chunks_97 rfl (lv_at hl 0 rfl) ?_
      refine tp_get (v := .int j_in) (C := R_Mo) (T := T_Mo) hx hb hts fw_Mo hown hw 0 rfl rfl 1 (by decide +kernel) (hts _ wd_332) rfl d_Mo_chunks_98 ?_
      refine lv_icmp_ge (tgt := 111) hx hb d_Mo_chunks_101 (by decide +kernel) (fun hc25 => ?_) (fun hc25 => ?_)
      · replace hm := tp_it hc25 hm
        refine lv_aload_n hx hb d_Mo_chunks_111 rfl (lv_at hl 0 rfl) ?_
        refine tp_get (v := .int j_in) (C := R_Mo) (T := T_Mo) hx hb hts fw_Mo hown hw 0 rfl rfl 1 (by decide +kernel) (hts _ wd_332) rfl d_Mo_chunks_112 ?_
        exact w_Mo_chunks_115 hF2 ih81 _ _ _ _ _ _ _ _ _ _ _ _ _ _ _ _ _ _ hm hw (lv_sub hl [0, 1, 2, 3, 4] rfl)
      · replace hm := tp_if hc25 hm
        refine lv_iload hx hb d_Mo_chunks_104 (lv_at hl 4 rfl) ?_
        refine lv_iload_n hx hb d_Mo_chunks_106 rfl (lv_at hl 1 rfl) ?_
        refine lv_iadd hx hb d_Mo_chunks_107 ?_
        refine lv_goto (tgt := 115) hx hb d_Mo_chunks_108 (by decide +kernel) ?_
        exact w_Mo_chunks_115 hF2 ih81 _ _ _ _ _ _ _ _ _ _ _ _ _ _ _ _ _ _ hm hw (lv_sub hl [0, 1, 2, 3, 4] rfl)
set_option maxHeartbeats 4000000 in
set_option maxRecDepth 100000 in
theorem w_Mo_chunks_56 {q_j q_ji q_jo q_jm q_jn q_jf : Nat} {j_in : Int32} {j_told : Int32} {j_at : Int32} {j_end : Int32} {j_fault : Int32} {j_fp : Int32} {ji_f : Nat → Int32} {N : Nat} {r : Int32} {j_out' : Int32} {j_made' : Int32} {j_known' : Int32} {j_fat' : Int32} {j_flong' : Int32} {jo_f' : Nat → Int32} {jm_f' : Nat → Int32} {jn_f' : Nat → Int32} {jf_f' : Nat → Int32} (hF2 : tp_F p m c c_Mo_chunks 6 s args tpG R_Mo meth (some .int)) : ∀ (n : Nat), ∀ (x1 : Int32) (x2 : Int32) (x3 : Int32) (x4 : Int32) (j_out : Int32) (j_made : Int32) (j_known : Int32) (j_fat : Int32) (j_flong : Int32) (jo_f : Nat → Int32) (jm_f : Nat → Int32) (jn_f : Nat → Int32) (jf_f : Nat → Int32) (H : Heap) (locs : List Loc) (ls : Array Slot), tp_it13 (m_Mo_chunks_56 N j_in ji_f ) n x1 x2 x3 x4 j_out j_made j_known j_fat j_flong jo_f jm_f jn_f jf_f = some (r, j_out', j_made', j_known', j_fat', j_flong', jo_f', jm_f', jn_f', jf_f') → tp_Wd D (tp_ty cB cI) tM A s H locs [(q_j, .inr (7, [.ref q_ji, .int j_in, .ref q_jo, .int j_out, .ref q_jm, .int j_made, .ref q_jn, .ref q_jf, .int j_known, .int j_fat, .int j_flong, .int j_told, .int j_at, .int j_end, .int j_fault, .int j_fp])), (q_ji, .inl (cB, 10000, .inl ji_f)), (q_jo, .inl (cB, 10000, .inl jo_f)), (q_jm, .inl (cB, 20000, .inl jm_f)), (q_jn, .inl (cI, 10001, .inl jn_f)), (q_jf, .inl (cI, 10001, .inl jf_f))] → lv_has ls 6 [(0, .ref q_j), (1, .int x1), (2, .int x2), (3, .int x3), (4, .int x4)] → W p l e rm_Mo_chunks s m args below meth c H locs 0 0 (MQ below (tp_Qi D A r [(q_j, .inr (7, [.ref q_ji, .int j_in, .ref q_jo, .int j_out', .ref q_jm, .int j_made', .ref q_jn, .ref q_jf, .int j_known', .int j_fat', .int j_flong', .int j_told, .int j_at, .int j_end, .int j_fault, .int j_fp])), (q_ji, .inl (cB, 10000, .inl ji_f)), (q_jo, .inl (cB, 10000, .inl jo_f')), (q_jm, .inl (cB, 20000, .inl jm_f')), (q_jn, .inl (cI, 10001, .inl jn_f')), (q_jf, .inl (cI, 10001, .inl jf_f'))]) args s 0 0 A) (F0 m 56 ls []) := by
  obtain ⟨hF, hr, hlocks⟩ := id hF2
  obtain ⟨hx, hb, hml, hown, hts⟩ := id hF
  intro n
  induction n with
  | zero => intro x1 x2 x3 x4 j_out j_made j_known j_fat j_flong jo_f jm_f jn_f jf_f H locs ls hm; exact absurd hm (by simp [tp_it13])
  | succ n ih56 =>
    intro x1 x2 x3 x4 j_out j_made j_known j_fat j_flong jo_f jm_f jn_f jf_f H locs ls hm hw hl
    replace hm : m_Mo_chunks_56 N j_in ji_f  (tp_it13 (m_Mo_chunks_56 N j_in ji_f ) n) x1 x2 x3 x4 j_out j_made j_known j_fat j_flong jo_f jm_f jn_f jf_f = some (r, j_out', j_made', j_known', j_fat', j_flong', jo_f', jm_f', jn_f', jf_f') := hm
    unfold m_Mo_chunks_56 at hm
    refine lv_iload hx hb d_Mo_chunks_56 (lv_at hl 4 rfl) ?_
    refine lv_bipush (v := (6 : Int32)) hx hb d_Mo_chunks_58 (by decide +kernel) ?_
    refine lv_icmp_ge (tgt := 78) hx hb d_Mo_chunks_60 (by decide +kernel) (fun hc13 => ?_) (fun hc13 => ?_)
    · replace hm := tp_it hc13 hm
      refine lv_iconst (v := (0 : Int32)) hx hb d_Mo_chunks_78 (by decide +kernel) ?_
      refine lv_istore (lv' := [(4, .int (0 : Int32)), (0, .ref q_j), (1, .int x1), (2, .int x2), (3, .int x3)]) hx hb d_Mo_chunks_79 hl (by decide +kernel) rfl (fun ls hl => ?_)
      exact w_Mo_chunks_81 hF2  N _ _ _ _ _ _ _ _ _ _ _ _ _ _ _ _ hm hw (lv_sub hl [1, 2, 3, 4, 0] rfl)
    · replace hm := tp_if hc13 hm
      refine lv_aload_n hx hb d_Mo_chunks_63 rfl (lv_at hl 0 rfl) ?_
      refine lv_iload hx hb d_Mo_chunks_64 (lv_at hl 4 rfl) ?_
      obtain ⟨r14, hm15, hm⟩ := tp_b1_e hm
      refine tp_calli (wr := [(q_j, .inr (7, [.ref q_ji, .int j_in, .ref q_jo, .int j_out, .ref q_jm, .int j_made, .ref q_jn, .ref q_jf, .int j_known, .int j_fat, .int j_flong, .int j_told, .int j_at, .int j_end, .int j_fault, .int j_fp])), (q_ji, .inl (cB, 10000, .inl ji_f)), (q_jo, .inl (cB, 10000, .inl jo_f)), (q_jm, .inl (cB, 20000, .inl jm_f)), (q_jn, .inl (cI, 10001, .inl jn_f)), (q_jf, .inl (cI, 10001, .inl jf_f))]) (WS' := [(q_j, .inr (7, [.ref q_ji, .int j_in, .ref q_jo, .int j_out, .ref q_jm, .int j_made, .ref q_jn, .ref q_jf, .int j_known, .int j_fat, .int j_flong, .int j_told, .int j_at, .int j_end, .int j_fault, .int j_fp])), (q_ji, .inl (cB, 10000, .inl ji_f)), (q_jo, .inl (cB, 10000, .inl jo_f)), (q_jm, .inl (cB, 20000, .inl jm_f)), (q_jn, .inl (cI, 10001, .inl jn_f)), (q_jf, .inl (cI, 10001, .inl jf_f))]) (va_runS (As := [.int x4]) (rest := [.ref q_j]) hF (ct_Mo_mark (l := l) (D := D) (cB := cB) (cI := cI) (tM := tM) (x0 := x4) (r := r14) hm15 _) (va_cwS 1 hts (tpG_S wd_455 wd_456 wd_340 wd_454) rfl rfl rfl yd_Mo_mark ⟨Nat.le_of_ble_eq_true rfl, Nat.le_of_ble_eq_true rfl⟩) ⟨tp_blind, tp_pre hw [] rfl rfl⟩ rfl rfl hl.1 rfl (lv_room (Nat.le_of_ble_eq_true rfl)) d_Mo_chunks_66 ⟨Nat.le_of_ble_eq_true rfl, Nat.le_of_ble_eq_true rfl⟩) hw [] [0, 1, 2, 3, 4, 5] [0, 1, 2, 3, 4, 5] rfl rfl rfl (by decide) rfl rfl (fun H locs hw => ?_)
      obtain ⟨j_made_16, jm_f_17, hm18, hm⟩ := tp_b2_e hm
      refine tp_callv (wr := []) (WS' := [(q_j, .inr (7, [.ref q_ji, .int j_in, .ref q_jo, .int j_out, .ref q_jm, .int j_made_16, .ref q_jn, .ref q_jf, .int j_known, .int j_fat, .int j_flong, .int j_told, .int j_at, .int j_end, .int j_fault, .int j_fp])), (q_ji, .inl (cB, 10000, .inl ji_f)), (q_jo, .inl (cB, 10000, .inl jo_f)), (q_jm, .inl (cB, 20000, .inl jm_f_17)), (q_jn, .inl (cI, 10001, .inl jn_f)), (q_jf, .inl (cI, 10001, .inl jf_f))]) (va_runV (As := [.int r14]) (rest := []) hF (ct_Mo_put (l := l) (D := D) (cB := cB) (cI := cI) (tM := tM) (q_j := q_j) (q_ji := q_ji) (q_jo := q_jo) (q_jm := q_jm) (q_jn := q_jn) (q_jf := q_jf) (j_in := j_in) (j_out := j_out) (j_made := j_made) (j_known := j_known) (j_fat := j_fat) (j_flong := j_flong) (j_told := j_told) (j_at := j_at) (j_end := j_end) (j_fault := j_fault) (j_fp := j_fp) (ji_f := ji_f) (jo_f := jo_f) (jm_f := jm_f) (jn_f := jn_f) (jf_f := jf_f) (x1 := r14) (j_made' := j_made_16) (jm_f' := jm_f_17) hm18 _) (cwV 1 hts (tpG_V wd_341 wd_342 wd_343 wd_340 wd_339) rfl rfl rfl ⟨rfl, yd_Mo_put⟩ ⟨Nat.le_of_ble_eq_true rfl, Nat.le_of_ble_eq_true rfl⟩) ⟨tp_blind, va_recv hw.1 hw.2.1 (ci := 7) (q0 := 0) rfl rfl, tp_pre hw [0, 1, 2, 3, 4, 5] rfl rfl⟩ rfl rfl hl.1 rfl (lv_room (Nat.le_of_ble_eq_true rfl)) d_Mo_chunks_69 ⟨Nat.le_of_ble_eq_true rfl, Nat.le_of_ble_eq_true rfl⟩) hw [0, 1, 2, 3, 4, 5] [] [0, 1, 2, 3, 4, 5] rfl rfl rfl (by decide) rfl rfl (fun H locs hw => ?_)
      refine lv_iinc (v := (x4 + (1 : Int32))) (lv' := [(4, .int (x4 + (1 : Int32))), (0, .ref q_j), (1, .int x1), (2, .int x2), (3, .int x3)]) hx hb d_Mo_chunks_72 hl (k := 4) rfl rfl (by decide +kernel) rfl (fun ls hl => ?_)
      refine lv_goto (tgt := 56) hx hb d_Mo_chunks_75 (by decide +kernel) ?_
      exact ih56 _ _ _ _ _ _ _ _ _ _ _ _ _ _ _ _ hm hw (lv_sub hl [1, 2, 3, 4, 0] rfl)
set_option maxHeartbeats 4000000 in
set_option maxRecDepth 100000 in
theorem ct_Mo_chunks {q_j q_ji q_jo q_jm q_jn q_jf : Nat} {j_in : Int32} {j_out : Int32} {j_made : Int32} {j_known : Int32} {j_fat : Int32} {j_flong : Int32} {j_told : Int32} {j_at : Int32} {j_end : Int32} {j_fault : Int32} {j_fp : Int32} {ji_f : Nat → Int32} {jo_f : Nat → Int32} {jm_f : Nat → Int32} {jn_f : Nat → Int32} {jf_f : Nat → Int32} {N : Nat} {x1 : Int32} {x2 : Int32} {x3 : Int32} {r : Int32} {j_out' : Int32} {j_made' : Int32} {j_known' : Int32} {j_fat' : Int32} {j_flong' : Int32} {jo_f' : Nat → Int32} {jm_f' : Nat → Int32} {jn_f' : Nat → Int32} {jf_f' : Nat → Int32} (hm : m_Mo_chunks N x1 x2 x3 j_in j_out j_made j_known j_fat j_flong ji_f jo_f jm_f jn_f jf_f = some (r, j_out', j_made', j_known', j_fat', j_flong', jo_f', jm_f', jn_f', jf_f')) (sz : Nat) : tp_Ci l y_Mo_chunks ws_Mo_chunks rm_Mo_chunks D (tp_ty cB cI) tM [.ref q_j, .int x1, .int x2, .int x3] [(q_j, .inr (7, [.ref q_ji, .int j_in, .ref q_jo, .int j_out, .ref q_jm, .int j_made, .ref q_jn, .ref q_jf, .int j_known, .int j_fat, .int j_flong, .int j_told, .int j_at, .int j_end, .int j_fault, .int j_fp])), (q_ji, .inl (cB, 10000, .inl ji_f)), (q_jo, .inl (cB, 10000, .inl jo_f)), (q_jm, .inl (cB, 20000, .inl jm_f)), (q_jn, .inl (cI, 10001, .inl jn_f)), (q_jf, .inl (cI, 10001, .inl jf_f))] sz r [(q_j, .inr (7, [.ref q_ji, .int j_in, .ref q_jo, .int j_out', .ref q_jm, .int j_made', .ref q_jn, .ref q_jf, .int j_known', .int j_fat', .int j_flong', .int j_told, .int j_at, .int j_end, .int j_fault, .int j_fp])), (q_ji, .inl (cB, 10000, .inl ji_f)), (q_jo, .inl (cB, 10000, .inl jo_f')), (q_jm, .inl (cB, 20000, .inl jm_f')), (q_jn, .inl (cI, 10001, .inl jn_f')), (q_jf, .inl (cI, 10001, .inl jf_f'))] := by
  refine Met.ofW (cc := c_Mo_chunks) (maxL := 6) (ret := (some .int)) (by decide) rfl ?_
  intro p e s m args below meth c s₁ B hml hv
  obtain ⟨rfl, hv⟩ := hv
  have hw := tp_entry hv
  generalize va_A [(q_j, .inr (7, [.ref q_ji, .int j_in, .ref q_jo, .int j_out, .ref q_jm, .int j_made, .ref q_jn, .ref q_jf, .int j_known, .int j_fat, .int j_flong, .int j_told, .int j_at, .int j_end, .int j_fault, .int j_fp])), (q_ji, .inl (cB, 10000, .inl ji_f)), (q_jo, .inl (cB, 10000, .inl jo_f)), (q_jm, .inl (cB, 20000, .inl jm_f)), (q_jn, .inl (cI, 10001, .inl jn_f)), (q_jf, .inl (cI, 10001, .inl jf_f))] sz = A at hw ⊢
  have hx := B.exec
  have hb := B.bytes
  have hr := B.returns
  have hts0 := atoms_spec (ws := ws_Mo_chunks) B.pre
  have hts := fun w h => hts0 w (List.mem_cons_of_mem _ h)
  have hown : s.vm.findClass R_Mo = some m.cls := findClass_of_methodNamed B.named
  have hlocks := B.notSynchronized
  have hF : CallFix p m c c_Mo_chunks 6 s _ tpG R_Mo := ⟨hx, hb, hml, hown, hts⟩
  have hF2 : tp_F p m c c_Mo_chunks 6 s _ tpG R_Mo meth (some .int) := ⟨hF, hr, hlocks⟩
  have hl := lv_entry ([.ref q_j, .int x1, .int x2, .int x3]) (n := 6) (Nat.le_of_ble_eq_true rfl)
  rw [lg_entry_eq]
  generalize (lg_sl ([.ref q_j, .int x1, .int x2, .int x3]) ++ List.replicate (6 - (lg_sl ([.ref q_j, .int x1, .int x2, .int x3])).length) Slot.unset).toArray = ls at hl ⊢
  replace hl : lv_has ls 6 [(0, .ref q_j), (1, .int x1), (2, .int x2), (3, .int x3)] := hl
  unfold m_Mo_chunks at hm
  refine lv_iload_n hx hb d_Mo_chunks_0 rfl (lv_at hl 1 rfl) ?_
  refine lv_iconst (v := (1 : Int32)) hx hb d_Mo_chunks_1 (by decide +kernel) ?_
  refine lv_icmp_lt (tgt := 32) hx hb d_Mo_chunks_2 (by decide +kernel) (fun hc1 => ?_) (fun hc1 => ?_)
  · replace hm := tp_it hc1 hm
    refine lv_iconst (v := (-1 : Int32)) hx hb d_Mo_chunks_32 (by decide +kernel) ?_
    obtain ⟨rfl, rfl, rfl, rfl, rfl, rfl, rfl, rfl, rfl, rfl⟩ := tp_inj10 hm
    exact tp_iret hx hb hr hlocks hw d_Mo_chunks_33
  · replace hm := tp_if hc1 hm
    refine lv_iload_n hx hb d_Mo_chunks_5 rfl (lv_at hl 1 rfl) ?_
    refine lv_sipush (v := (10000 : Int32)) hx hb d_Mo_chunks_6 (by decide +kernel) ?_
    refine lv_icmp_gt (tgt := 32) hx hb d_Mo_chunks_9 (by decide +kernel) (fun hc2 => ?_) (fun hc2 => ?_)
    · replace hm := tp_it hc2 hm
      refine lv_iconst (v := (-1 : Int32)) hx hb d_Mo_chunks_32 (by decide +kernel) ?_
      obtain ⟨rfl, rfl, rfl, rfl, rfl, rfl, rfl, rfl, rfl, rfl⟩ := tp_inj10 hm
      exact tp_iret hx hb hr hlocks hw d_Mo_chunks_33
    · replace hm := tp_if hc2 hm
      refine lv_iload_n hx hb d_Mo_chunks_12 rfl (lv_at hl 3 rfl) ?_
      refine lv_if_lt (tgt := 32) hx hb d_Mo_chunks_13 (by decide +kernel) (fun hc3 => ?_) (fun hc3 => ?_)
      · replace hm := tp_it hc3 hm
        refine lv_iconst (v := (-1 : Int32)) hx hb d_Mo_chunks_32 (by decide +kernel) ?_
        obtain ⟨rfl, rfl, rfl, rfl, rfl, rfl, rfl, rfl, rfl, rfl⟩ := tp_inj10 hm
        exact tp_iret hx hb hr hlocks hw d_Mo_chunks_33
      · replace hm := tp_if hc3 hm
        refine lv_iload_n hx hb d_Mo_chunks_16 rfl (lv_at hl 3 rfl) ?_
        refine lv_sipush (v := (255 : Int32)) hx hb d_Mo_chunks_17 (by decide +kernel) ?_
        refine lv_icmp_gt (tgt := 32) hx hb d_Mo_chunks_20 (by decide +kernel) (fun hc4 => ?_) (fun hc4 => ?_)
        · replace hm := tp_it hc4 hm
          refine lv_iconst (v := (-1 : Int32)) hx hb d_Mo_chunks_32 (by decide +kernel) ?_
          obtain ⟨rfl, rfl, rfl, rfl, rfl, rfl, rfl, rfl, rfl, rfl⟩ := tp_inj10 hm
          exact tp_iret hx hb hr hlocks hw d_Mo_chunks_33
        · replace hm := tp_if hc4 hm
          refine lv_iload_n hx hb d_Mo_chunks_23 rfl (lv_at hl 2 rfl) ?_
          refine lv_if_lt (tgt := 32) hx hb d_Mo_chunks_24 (by decide +kernel) (fun hc5 => ?_) (fun hc5 => ?_)
          · replace hm := tp_it hc5 hm
            refine lv_iconst (v := (-1 : Int32)) hx hb d_Mo_chunks_32 (by decide +kernel) ?_
            obtain ⟨rfl, rfl, rfl, rfl, rfl, rfl, rfl, rfl, rfl, rfl⟩ := tp_inj10 hm
            exact tp_iret hx hb hr hlocks hw d_Mo_chunks_33
          · replace hm := tp_if hc5 hm
            refine lv_iload_n hx hb d_Mo_chunks_27 rfl (lv_at hl 2 rfl) ?_
            refine lv_iconst (v := (3 : Int32)) hx hb d_Mo_chunks_28 (by decide +kernel) ?_
            refine lv_icmp_le (tgt := 34) hx hb d_Mo_chunks_29 (by decide +kernel) (fun hc6 => ?_) (fun hc6 => ?_)
            · replace hm := tp_it hc6 hm
              refine lv_aload_n hx hb d_Mo_chunks_34 rfl (lv_at hl 0 rfl) ?_
              refine lv_iconst (v := (0 : Int32)) hx hb d_Mo_chunks_35 (by decide +kernel) ?_
              refine tp_put (v := .int (0 : Int32)) (C := R_Mo) (T := T_Mo) (WS' := [(q_j, .inr (7, [.ref q_ji, .int j_in, .ref q_jo, .int j_out, .ref q_jm, .int (0 : Int32), .ref q_jn, .ref q_jf, .int j_known, .int j_fat, .int j_flong, .int j_told, .int j_at, .int j_end, .int j_fault, .int j_fp])), (q_ji, .inl (cB, 10000, .inl ji_f)), (q_jo, .inl (cB, 10000, .inl jo_f)), (q_jm, .inl (cB, 20000, .inl jm_f)), (q_jn, .inl (cI, 10001, .inl jn_f)), (q_jf, .inl (cI, 10001, .inl jf_f))]) hx hb hts fw_Mo ty_Mo ty_Mo_ok nm_Mo hown hw 0 rfl rfl 5 (by decide +kernel) (hts _ wd_337) rfl rfl rfl (Nat.le_of_ble_eq_true rfl) rfl d_Mo_chunks_36 (fun H locs hw => ?_)
              refine lv_aload_n hx hb d_Mo_chunks_39 rfl (lv_at hl 0 rfl) ?_
              refine lv_sipush (v := (255 : Int32)) hx hb d_Mo_chunks_40 (by decide +kernel) ?_
              obtain ⟨j_made_7, jm_f_8, hm9, hm⟩ := tp_b2_e hm
              refine tp_callv (wr := []) (WS' := [(q_j, .inr (7, [.ref q_ji, .int j_in, .ref q_jo, .int j_out, .ref q_jm, .int j_made_7, .ref q_jn, .ref q_jf, .int j_known, .int j_fat, .int j_flong, .int j_told, .int j_at, .int j_end, .int j_fault, .int j_fp])), (q_ji, .inl (cB, 10000, .inl ji_f)), (q_jo, .inl (cB, 10000, .inl jo_f)), (q_jm, .inl (cB, 20000, .inl jm_f_8)), (q_jn, .inl (cI, 10001, .inl jn_f)), (q_jf, .inl (cI, 10001, .inl jf_f))]) (va_runV (As := [.int (255 : Int32)]) (rest := []) hF (ct_Mo_put (l := l) (D := D) (cB := cB) (cI := cI) (tM := tM) (q_j := q_j) (q_ji := q_ji) (q_jo := q_jo) (q_jm := q_jm) (q_jn := q_jn) (q_jf := q_jf) (j_in := j_in) (j_out := j_out) (j_made := (0 : Int32)) (j_known := j_known) (j_fat := j_fat) (j_flong := j_flong) (j_told := j_told) (j_at := j_at) (j_end := j_end) (j_fault := j_fault) (j_fp := j_fp) (ji_f := ji_f) (jo_f := jo_f) (jm_f := jm_f) (jn_f := jn_f) (jf_f := jf_f) (x1 := (255 : Int32)) (j_made' := j_made_7) (jm_f' := jm_f_8) hm9 _) (cwV 1 hts (tpG_V wd_341 wd_342 wd_343 wd_340 wd_339) rfl rfl rfl ⟨rfl, yd_Mo_put⟩ ⟨Nat.le_of_ble_eq_true rfl, Nat.le_of_ble_eq_true rfl⟩) ⟨tp_blind, va_recv hw.1 hw.2.1 (ci := 7) (q0 := 0) rfl rfl, tp_pre hw [0, 1, 2, 3, 4, 5] rfl rfl⟩ rfl rfl hl.1 rfl (lv_room (Nat.le_of_ble_eq_true rfl)) d_Mo_chunks_43 ⟨Nat.le_of_ble_eq_true rfl, Nat.le_of_ble_eq_true rfl⟩) hw [0, 1, 2, 3, 4, 5] [] [0, 1, 2, 3, 4, 5] rfl rfl rfl (by decide) rfl rfl (fun H locs hw => ?_)
              refine lv_aload_n hx hb d_Mo_chunks_46 rfl (lv_at hl 0 rfl) ?_
              refine lv_bipush (v := (6 : Int32)) hx hb d_Mo_chunks_47 (by decide +kernel) ?_
              refine lv_iconst (v := (3 : Int32)) hx hb d_Mo_chunks_49 (by decide +kernel) ?_
              obtain ⟨j_made_10, jm_f_11, hm12, hm⟩ := tp_b2_e hm
              refine tp_callv (wr := []) (WS' := [(q_j, .inr (7, [.ref q_ji, .int j_in, .ref q_jo, .int j_out, .ref q_jm, .int j_made_10, .ref q_jn, .ref q_jf, .int j_known, .int j_fat, .int j_flong, .int j_told, .int j_at, .int j_end, .int j_fault, .int j_fp])), (q_ji, .inl (cB, 10000, .inl ji_f)), (q_jo, .inl (cB, 10000, .inl jo_f)), (q_jm, .inl (cB, 20000, .inl jm_f_11)), (q_jn, .inl (cI, 10001, .inl jn_f)), (q_jf, .inl (cI, 10001, .inl jf_f))]) (va_runV (As := [.int (6 : Int32), .int (3 : Int32)]) (rest := []) hF (ct_Mo_putNumber (l := l) (D := D) (cB := cB) (cI := cI) (tM := tM) (q_j := q_j) (q_ji := q_ji) (q_jo := q_jo) (q_jm := q_jm) (q_jn := q_jn) (q_jf := q_jf) (j_in := j_in) (j_out := j_out) (j_made := j_made_7) (j_known := j_known) (j_fat := j_fat) (j_flong := j_flong) (j_told := j_told) (j_at := j_at) (j_end := j_end) (j_fault := j_fault) (j_fp := j_fp) (ji_f := ji_f) (jo_f := jo_f) (jm_f := jm_f_8) (jn_f := jn_f) (jf_f := jf_f) (x1 := (6 : Int32)) (x2 := (3 : Int32)) (N := N) (j_made' := j_made_10) (jm_f' := jm_f_11) hm12 _) (cwV 2 hts (tpG_V wd_378 wd_379 wd_380 wd_340 wd_377) rfl rfl rfl ⟨rfl, yd_Mo_putNumber⟩ ⟨Nat.le_of_ble_eq_true rfl, Nat.le_of_ble_eq_true rfl⟩) ⟨tp_blind, va_recv hw.1 hw.2.1 (ci := 7) (q0 := 0) rfl rfl, tp_pre hw [0, 1, 2, 3, 4, 5] rfl rfl⟩ rfl rfl hl.1 rfl (lv_room (Nat.le_of_ble_eq_true rfl)) d_Mo_chunks_50 ⟨Nat.le_of_ble_eq_true rfl, Nat.le_of_ble_eq_true rfl⟩) hw [0, 1, 2, 3, 4, 5] [] [0, 1, 2, 3, 4, 5] rfl rfl rfl (by decide) rfl rfl (fun H locs hw => ?_)
              refine lv_iconst (v := (0 : Int32)) hx hb d_Mo_chunks_53 (by decide +kernel) ?_
              refine lv_istore (lv' := [(4, .int (0 : Int32)), (0, .ref q_j), (1, .int x1), (2, .int x2), (3, .int x3)]) hx hb d_Mo_chunks_54 hl (by decide +kernel) rfl (fun ls hl => ?_)
              exact w_Mo_chunks_56 hF2  N _ _ _ _ _ _ _ _ _ _ _ _ _ _ _ _ hm hw (lv_sub hl [1, 2, 3, 4, 0] rfl)
            · replace hm := tp_if hc6 hm
              refine lv_iconst (v := (-1 : Int32)) hx hb d_Mo_chunks_32 (by decide +kernel) ?_
              obtain ⟨rfl, rfl, rfl, rfl, rfl, rfl, rfl, rfl, rfl, rfl⟩ := tp_inj10 hm
              exact tp_iret hx hb hr hlocks hw d_Mo_chunks_33
end
