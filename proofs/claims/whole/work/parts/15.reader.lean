abbrev rm_BlockReader_made : Room := { frames := 0, cells := 0, slots := 0, locals := 0 }
abbrev ws_BlockReader_made : List Cond := .code y_BlockReader_made c_BlockReader_made 1 (some .int) :: tpG
noncomputable def m_BlockReader_made (br_tb : Int32) (t_c : Int32) : Option (Int32) :=
  some ((t_c - br_tb))
section
variable {p : Program} {l : Launch} {e : Env} {s : State} {m : MethodId} {args : Array Value} {below : List Frame} {meth : Method} {c : Code} {A : Nat → Prop} {D : va_G} {cB cI : ClassId} {tM : Nat}
set_option maxHeartbeats 4000000 in
set_option maxRecDepth 100000 in
theorem ct_BlockReader_made {q_br q_i q_iB q_t q_tB : Nat} {br_at : Int32} {br_end : Int32} {br_tb : Int32} {br_len : Int64} {br_fault : Int32} {br_fp : Int32} {i_c : Int32} {i_f : Nat → Int32} {t_c : Int32} {t_f : Nat → Int32} {r : Int32} (hm : m_BlockReader_made br_tb t_c = some (r)) (sz : Nat) : tp_Ci l y_BlockReader_made ws_BlockReader_made rm_BlockReader_made D (tp_ty cB cI) tM [.ref q_br] [(q_br, .inr (0, [.ref q_i, .ref q_t, .int br_at, .int br_end, .int br_tb, .long br_len, .int br_fault, .int br_fp])), (q_i, .inr (3, [.ref q_iB, .int i_c])), (q_iB, .inl (cB, 10000, .inl i_f)), (q_t, .inr (3, [.ref q_tB, .int t_c])), (q_tB, .inl (cB, 10000, .inl t_f))] sz r [(q_br, .inr (0, [.ref q_i, .ref q_t, .int br_at, .int br_end, .int br_tb, .long br_len, .int br_fault, .int br_fp])), (q_i, .inr (3, [.ref q_iB, .int i_c])), (q_iB, .inl (cB, 10000, .inl i_f)), (q_t, .inr (3, [.ref q_tB, .int t_c])), (q_tB, .inl (cB, 10000, .inl t_f))] := by
  refine Met.ofW (cc := c_BlockReader_made) (maxL := 1) (ret := (some .int)) (by decide) rfl ?_
  intro p e s m args below meth c s₁ B hml hv
  obtain ⟨rfl, hv⟩ := hv
  have hw := tp_entry hv
  generalize va_A [(q_br, .inr (0, [.ref q_i, .ref q_t, .int br_at, .int br_end, .int br_tb, .long br_len, .int br_fault, .int br_fp])), (q_i, .inr (3, [.ref q_iB, .int i_c])), (q_iB, .inl (cB, 10000, .inl i_f)), (q_t, .inr (3, [.ref q_tB, .int t_c])), (q_tB, .inl (cB, 10000, .inl t_f))] sz = A at hw ⊢
  have hx := B.exec
  have hb := B.bytes
  have hr := B.returns
  have hts0 := atoms_spec (ws := ws_BlockReader_made) B.pre
  have hts := fun w h => hts0 w (List.mem_cons_of_mem _ h)
  have hown : s.vm.findClass R_BlockReader = some m.cls := findClass_of_methodNamed B.named
  have hlocks := B.notSynchronized
  have hF : CallFix p m c c_BlockReader_made 1 s _ tpG R_BlockReader := ⟨hx, hb, hml, hown, hts⟩
  have hF2 : tp_F p m c c_BlockReader_made 1 s _ tpG R_BlockReader meth (some .int) := ⟨hF, hr, hlocks⟩
  have hl := lv_entry ([.ref q_br]) (n := 1) (Nat.le_of_ble_eq_true rfl)
  rw [lg_entry_eq]
  generalize (lg_sl ([.ref q_br]) ++ List.replicate (1 - (lg_sl ([.ref q_br])).length) Slot.unset).toArray = ls at hl ⊢
  replace hl : lv_has ls 1 [(0, .ref q_br)] := hl
  unfold m_BlockReader_made at hm
  refine lv_aload_n hx hb d_BlockReader_made_0 rfl (lv_at hl 0 rfl) ?_
  refine tp_get (v := .ref q_t) (C := R_BlockReader) (T := T_BlockReader) hx hb hts fw_BlockReader hown hw 0 rfl rfl 1 (by decide +kernel) (hts _ wd_135) rfl d_BlockReader_made_1 ?_
  refine tp_getN (v := .int t_c) (C := R_Row) (T := T_Row) hx hb hts fw_Row hown hw 3 rfl rfl 1 (by decide +kernel) nw_6 rfl d_BlockReader_made_4 ?_
  refine lv_aload_n hx hb d_BlockReader_made_7 rfl (lv_at hl 0 rfl) ?_
  refine tp_get (v := .int br_tb) (C := R_BlockReader) (T := T_BlockReader) hx hb hts fw_BlockReader hown hw 0 rfl rfl 4 (by decide +kernel) (hts _ wd_136) rfl d_BlockReader_made_8 ?_
  refine lv_isub hx hb d_BlockReader_made_11 ?_
  obtain rfl := tp_inj1 hm
  exact tp_iret hx hb hr hlocks hw d_BlockReader_made_12
end
abbrev rm_BlockReader_fail : Room := { frames := 0, cells := 0, slots := 0, locals := 0 }
abbrev ws_BlockReader_fail : List Cond := .code y_BlockReader_fail c_BlockReader_fail 3 none :: tpG
noncomputable def m_BlockReader_fail (x1 : Int32) (x2 : Int32) (br_fault : Int32) (br_fp : Int32) : Option (Int32 × Int32) :=
  if br_fault = 0 then
    some (x1, x2)
  else
    some (br_fault, br_fp)
section
variable {p : Program} {l : Launch} {e : Env} {s : State} {m : MethodId} {args : Array Value} {below : List Frame} {meth : Method} {c : Code} {A : Nat → Prop} {D : va_G} {cB cI : ClassId} {tM : Nat}
set_option maxHeartbeats 4000000 in
set_option maxRecDepth 100000 in
theorem ct_BlockReader_fail {q_br q_i q_iB q_t q_tB : Nat} {br_at : Int32} {br_end : Int32} {br_tb : Int32} {br_len : Int64} {br_fault : Int32} {br_fp : Int32} {i_c : Int32} {i_f : Nat → Int32} {t_c : Int32} {t_f : Nat → Int32} {x1 : Int32} {x2 : Int32} {br_fault' : Int32} {br_fp' : Int32} (hm : m_BlockReader_fail x1 x2 br_fault br_fp = some (br_fault', br_fp')) (sz : Nat) : tp_Cv l y_BlockReader_fail ws_BlockReader_fail rm_BlockReader_fail D (tp_ty cB cI) tM [.ref q_br, .int x1, .int x2] [(q_br, .inr (0, [.ref q_i, .ref q_t, .int br_at, .int br_end, .int br_tb, .long br_len, .int br_fault, .int br_fp])), (q_i, .inr (3, [.ref q_iB, .int i_c])), (q_iB, .inl (cB, 10000, .inl i_f)), (q_t, .inr (3, [.ref q_tB, .int t_c])), (q_tB, .inl (cB, 10000, .inl t_f))] sz [(q_br, .inr (0, [.ref q_i, .ref q_t, .int br_at, .int br_end, .int br_tb, .long br_len, .int br_fault', .int br_fp'])), (q_i, .inr (3, [.ref q_iB, .int i_c])), (q_iB, .inl (cB, 10000, .inl i_f)), (q_t, .inr (3, [.ref q_tB, .int t_c])), (q_tB, .inl (cB, 10000, .inl t_f))] := by
  refine Met.ofW (cc := c_BlockReader_fail) (maxL := 3) (ret := none) (by decide) rfl ?_
  intro p e s m args below meth c s₁ B hml hv
  obtain ⟨rfl, hv⟩ := hv
  have hw := tp_entry hv
  generalize va_A [(q_br, .inr (0, [.ref q_i, .ref q_t, .int br_at, .int br_end, .int br_tb, .long br_len, .int br_fault, .int br_fp])), (q_i, .inr (3, [.ref q_iB, .int i_c])), (q_iB, .inl (cB, 10000, .inl i_f)), (q_t, .inr (3, [.ref q_tB, .int t_c])), (q_tB, .inl (cB, 10000, .inl t_f))] sz = A at hw ⊢
  have hx := B.exec
  have hb := B.bytes
  have hr := B.returns
  have hts0 := atoms_spec (ws := ws_BlockReader_fail) B.pre
  have hts := fun w h => hts0 w (List.mem_cons_of_mem _ h)
  have hown : s.vm.findClass R_BlockReader = some m.cls := findClass_of_methodNamed B.named
  have hlocks := B.notSynchronized
  have hF : CallFix p m c c_BlockReader_fail 3 s _ tpG R_BlockReader := ⟨hx, hb, hml, hown, hts⟩
  have hF2 : tp_F p m c c_BlockReader_fail 3 s _ tpG R_BlockReader meth none := ⟨hF, hr, hlocks⟩
  have hl := lv_entry ([.ref q_br, .int x1, .int x2]) (n := 3) (Nat.le_of_ble_eq_true rfl)
  rw [lg_entry_eq]
  generalize (lg_sl ([.ref q_br, .int x1, .int x2]) ++ List.replicate (3 - (lg_sl ([.ref q_br, .int x1, .int x2])).length) Slot.unset).toArray = ls at hl ⊢
  replace hl : lv_has ls 3 [(0, .ref q_br), (1, .int x1), (2, .int x2)] := hl
  unfold m_BlockReader_fail at hm
  refine lv_aload_n hx hb d_BlockReader_fail_0 rfl (lv_at hl 0 rfl) ?_
  refine tp_get (v := .int br_fault) (C := R_BlockReader) (T := T_BlockReader) hx hb hts fw_BlockReader hown hw 0 rfl rfl 6 (by decide +kernel) (hts _ wd_137) rfl d_BlockReader_fail_1 ?_
  refine lv_if_ne (tgt := 17) hx hb d_BlockReader_fail_4 (by decide +kernel) (fun hc1 => ?_) (fun hc1 => ?_)
  · replace hm := tp_if hc1 hm
    obtain ⟨rfl, rfl⟩ := tp_inj2 hm
    exact tp_vret () hx hb hr hlocks hw d_BlockReader_fail_17
  · replace hm := tp_it hc1 hm
    refine lv_aload_n hx hb d_BlockReader_fail_7 rfl (lv_at hl 0 rfl) ?_
    refine lv_iload_n hx hb d_BlockReader_fail_8 rfl (lv_at hl 1 rfl) ?_
    refine tp_put (v := .int x1) (C := R_BlockReader) (T := T_BlockReader) (WS' := [(q_br, .inr (0, [.ref q_i, .ref q_t, .int br_at, .int br_end, .int br_tb, .long br_len, .int x1, .int br_fp])), (q_i, .inr (3, [.ref q_iB, .int i_c])), (q_iB, .inl (cB, 10000, .inl i_f)), (q_t, .inr (3, [.ref q_tB, .int t_c])), (q_tB, .inl (cB, 10000, .inl t_f))]) hx hb hts fw_BlockReader ty_BlockReader ty_BlockReader_ok nm_BlockReader hown hw 0 rfl rfl 6 (by decide +kernel) (hts _ wd_137) rfl rfl rfl (Nat.le_of_ble_eq_true rfl) rfl d_BlockReader_fail_9 (fun H locs hw => ?_)
    refine lv_aload_n hx hb d_BlockReader_fail_12 rfl (lv_at hl 0 rfl) ?_
    refine lv_iload_n hx hb d_BlockReader_fail_13 rfl (lv_at hl 2 rfl) ?_
    refine tp_put (v := .int x2) (C := R_BlockReader) (T := T_BlockReader) (WS' := [(q_br, .inr (0, [.ref q_i, .ref q_t, .int br_at, .int br_end, .int br_tb, .long br_len, .int x1, .int x2])), (q_i, .inr (3, [.ref q_iB, .int i_c])), (q_iB, .inl (cB, 10000, .inl i_f)), (q_t, .inr (3, [.ref q_tB, .int t_c])), (q_tB, .inl (cB, 10000, .inl t_f))]) hx hb hts fw_BlockReader ty_BlockReader ty_BlockReader_ok nm_BlockReader hown hw 0 rfl rfl 7 (by decide +kernel) (hts _ wd_138) rfl rfl rfl (Nat.le_of_ble_eq_true rfl) rfl d_BlockReader_fail_14 (fun H locs hw => ?_)
    obtain ⟨rfl, rfl⟩ := tp_inj2 hm
    exact tp_vret () hx hb hr hlocks hw d_BlockReader_fail_17
end
abbrev rm_BlockReader_next : Room := { frames := 1, cells := 0, slots := 0, locals := 22 }
abbrev ws_BlockReader_next : List Cond := .code y_BlockReader_next c_BlockReader_next 1 (some .int) :: tpG
noncomputable def m_BlockReader_next (br_at : Int32) (br_end : Int32) (br_fault : Int32) (br_fp : Int32) (i_c : Int32) (i_f : Nat → Int32) : Option (Int32 × Int32 × Int32 × Int32) :=
  if br_at < br_end then
    tp_b1 (m_Row_at ((br_at + (1 : Int32)) - (1 : Int32)) i_c i_f) fun r2 =>
    some ((r2 &&& (255 : Int32)), (br_at + (1 : Int32)), br_fault, br_fp)
  else
    tp_b2 (m_BlockReader_fail (1 : Int32) br_end br_fault br_fp) fun br_fault_4 br_fp_5 =>
    some ((0 : Int32), br_at, br_fault_4, br_fp_5)
section
variable {p : Program} {l : Launch} {e : Env} {s : State} {m : MethodId} {args : Array Value} {below : List Frame} {meth : Method} {c : Code} {A : Nat → Prop} {D : va_G} {cB cI : ClassId} {tM : Nat}
set_option maxHeartbeats 4000000 in
set_option maxRecDepth 100000 in
theorem ct_BlockReader_next {q_br q_i q_iB q_t q_tB : Nat} {br_at : Int32} {br_end : Int32} {br_tb : Int32} {br_len : Int64} {br_fault : Int32} {br_fp : Int32} {i_c : Int32} {i_f : Nat → Int32} {t_c : Int32} {t_f : Nat → Int32} {r : Int32} {br_at' : Int32} {br_fault' : Int32} {br_fp' : Int32} (hm : m_BlockReader_next br_at br_end br_fault br_fp i_c i_f = some (r, br_at', br_fault', br_fp')) (sz : Nat) : tp_Ci l y_BlockReader_next ws_BlockReader_next rm_BlockReader_next D (tp_ty cB cI) tM [.ref q_br] [(q_br, .inr (0, [.ref q_i, .ref q_t, .int br_at, .int br_end, .int br_tb, .long br_len, .int br_fault, .int br_fp])), (q_i, .inr (3, [.ref q_iB, .int i_c])), (q_iB, .inl (cB, 10000, .inl i_f)), (q_t, .inr (3, [.ref q_tB, .int t_c])), (q_tB, .inl (cB, 10000, .inl t_f))] sz r [(q_br, .inr (0, [.ref q_i, .ref q_t, .int br_at', .int br_end, .int br_tb, .long br_len, .int br_fault', .int br_fp'])), (q_i, .inr (3, [.ref q_iB, .int i_c])), (q_iB, .inl (cB, 10000, .inl i_f)), (q_t, .inr (3, [.ref q_tB, .int t_c])), (q_tB, .inl (cB, 10000, .inl t_f))] := by
  refine Met.ofW (cc := c_BlockReader_next) (maxL := 1) (ret := (some .int)) (by decide) rfl ?_
  intro p e s m args below meth c s₁ B hml hv
  obtain ⟨rfl, hv⟩ := hv
  have hw := tp_entry hv
  generalize va_A [(q_br, .inr (0, [.ref q_i, .ref q_t, .int br_at, .int br_end, .int br_tb, .long br_len, .int br_fault, .int br_fp])), (q_i, .inr (3, [.ref q_iB, .int i_c])), (q_iB, .inl (cB, 10000, .inl i_f)), (q_t, .inr (3, [.ref q_tB, .int t_c])), (q_tB, .inl (cB, 10000, .inl t_f))] sz = A at hw ⊢
  have hx := B.exec
  have hb := B.bytes
  have hr := B.returns
  have hts0 := atoms_spec (ws := ws_BlockReader_next) B.pre
  have hts := fun w h => hts0 w (List.mem_cons_of_mem _ h)
  have hown : s.vm.findClass R_BlockReader = some m.cls := findClass_of_methodNamed B.named
  have hlocks := B.notSynchronized
  have hF : CallFix p m c c_BlockReader_next 1 s _ tpG R_BlockReader := ⟨hx, hb, hml, hown, hts⟩
  have hF2 : tp_F p m c c_BlockReader_next 1 s _ tpG R_BlockReader meth (some .int) := ⟨hF, hr, hlocks⟩
  have hl := lv_entry ([.ref q_br]) (n := 1) (Nat.le_of_ble_eq_true rfl)
  rw [lg_entry_eq]
  generalize (lg_sl ([.ref q_br]) ++ List.replicate (1 - (lg_sl ([.ref q_br])).length) Slot.unset).toArray = ls at hl ⊢
  replace hl : lv_has ls 1 [(0, .ref q_br)] := hl
  unfold m_BlockReader_next at hm
  refine lv_aload_n hx hb d_BlockReader_next_0 rfl (lv_at hl 0 rfl) ?_
  refine tp_get (v := .int br_at) (C := R_BlockReader) (T := T_BlockReader) hx hb hts fw_BlockReader hown hw 0 rfl rfl 2 (by decide +kernel) (hts _ wd_139) rfl d_BlockReader_next_1 ?_
  refine lv_aload_n hx hb d_BlockReader_next_4 rfl (lv_at hl 0 rfl) ?_
  refine tp_get (v := .int br_end) (C := R_BlockReader) (T := T_BlockReader) hx hb hts fw_BlockReader hown hw 0 rfl rfl 3 (by decide +kernel) (hts _ wd_140) rfl d_BlockReader_next_5 ?_
  refine lv_icmp_lt (tgt := 22) hx hb d_BlockReader_next_8 (by decide +kernel) (fun hc1 => ?_) (fun hc1 => ?_)
  · replace hm := tp_it hc1 hm
    refine lv_aload_n hx hb d_BlockReader_next_22 rfl (lv_at hl 0 rfl) ?_
    refine lv_dup hx hb d_BlockReader_next_23 rfl ?_
    refine tp_get (v := .int br_at) (C := R_BlockReader) (T := T_BlockReader) hx hb hts fw_BlockReader hown hw 0 rfl rfl 2 (by decide +kernel) (hts _ wd_139) rfl d_BlockReader_next_24 ?_
    refine lv_iconst (v := (1 : Int32)) hx hb d_BlockReader_next_27 (by decide +kernel) ?_
    refine lv_iadd hx hb d_BlockReader_next_28 ?_
    refine tp_put (v := .int (br_at + (1 : Int32))) (C := R_BlockReader) (T := T_BlockReader) (WS' := [(q_br, .inr (0, [.ref q_i, .ref q_t, .int (br_at + (1 : Int32)), .int br_end, .int br_tb, .long br_len, .int br_fault, .int br_fp])), (q_i, .inr (3, [.ref q_iB, .int i_c])), (q_iB, .inl (cB, 10000, .inl i_f)), (q_t, .inr (3, [.ref q_tB, .int t_c])), (q_tB, .inl (cB, 10000, .inl t_f))]) hx hb hts fw_BlockReader ty_BlockReader ty_BlockReader_ok nm_BlockReader hown hw 0 rfl rfl 2 (by decide +kernel) (hts _ wd_139) rfl rfl rfl (Nat.le_of_ble_eq_true rfl) rfl d_BlockReader_next_29 (fun H locs hw => ?_)
    refine lv_aload_n hx hb d_BlockReader_next_32 rfl (lv_at hl 0 rfl) ?_
    refine tp_get (v := .ref q_i) (C := R_BlockReader) (T := T_BlockReader) hx hb hts fw_BlockReader hown hw 0 rfl rfl 0 (by decide +kernel) (hts _ wd_141) rfl d_BlockReader_next_33 ?_
    refine lv_aload_n hx hb d_BlockReader_next_36 rfl (lv_at hl 0 rfl) ?_
    refine tp_get (v := .int (br_at + (1 : Int32))) (C := R_BlockReader) (T := T_BlockReader) hx hb hts fw_BlockReader hown hw 0 rfl rfl 2 (by decide +kernel) (hts _ wd_139) rfl d_BlockReader_next_37 ?_
    refine lv_iconst (v := (1 : Int32)) hx hb d_BlockReader_next_40 (by decide +kernel) ?_
    refine lv_isub hx hb d_BlockReader_next_41 ?_
    obtain ⟨r2, hm3, hm⟩ := tp_b1_e hm
    refine tp_calli (wr := [(q_br, .inr (0, [.ref q_i, .ref q_t, .int (br_at + (1 : Int32)), .int br_end, .int br_tb, .long br_len, .int br_fault, .int br_fp])), (q_t, .inr (3, [.ref q_tB, .int t_c])), (q_tB, .inl (cB, 10000, .inl t_f))]) (WS' := [(q_br, .inr (0, [.ref q_i, .ref q_t, .int (br_at + (1 : Int32)), .int br_end, .int br_tb, .long br_len, .int br_fault, .int br_fp])), (q_i, .inr (3, [.ref q_iB, .int i_c])), (q_iB, .inl (cB, 10000, .inl i_f)), (q_t, .inr (3, [.ref q_tB, .int t_c])), (q_tB, .inl (cB, 10000, .inl t_f))]) (va_runV (As := [.int ((br_at + (1 : Int32)) - (1 : Int32))]) (rest := []) hF (ct_Row_at (l := l) (D := D) (cB := cB) (cI := cI) (tM := tM) (q_a := q_i) (q_aB := q_iB) (a_c := i_c) (a_f := i_f) (x1 := ((br_at + (1 : Int32)) - (1 : Int32))) (r := r2) hm3 _) (cwV 1 hts (tpG_V wd_142 wd_13 wd_14 wd_3 wd_11) rfl rfl rfl ⟨rfl, yd_Row_at⟩ ⟨Nat.le_of_ble_eq_true rfl, Nat.le_of_ble_eq_true rfl⟩) ⟨tp_blind, va_recv hw.1 hw.2.1 (ci := 3) (q0 := 1) rfl rfl, tp_pre hw [1, 2] rfl rfl⟩ rfl rfl hl.1 rfl (lv_room (Nat.le_of_ble_eq_true rfl)) d_BlockReader_next_42 ⟨Nat.le_of_ble_eq_true rfl, Nat.le_of_ble_eq_true rfl⟩) hw [1, 2] [0, 3, 4] [0, 3, 4, 1, 2] rfl rfl rfl (by decide) rfl rfl (fun H locs hw => ?_)
    refine lv_sipush (v := (255 : Int32)) hx hb d_BlockReader_next_45 (by decide +kernel) ?_
    refine lv_iand hx hb d_BlockReader_next_48 ?_
    obtain ⟨rfl, rfl, rfl, rfl⟩ := tp_inj4 hm
    exact tp_iret hx hb hr hlocks hw d_BlockReader_next_49
  · replace hm := tp_if hc1 hm
    refine lv_aload_n hx hb d_BlockReader_next_11 rfl (lv_at hl 0 rfl) ?_
    refine lv_iconst (v := (1 : Int32)) hx hb d_BlockReader_next_12 (by decide +kernel) ?_
    refine lv_aload_n hx hb d_BlockReader_next_13 rfl (lv_at hl 0 rfl) ?_
    refine tp_get (v := .int br_end) (C := R_BlockReader) (T := T_BlockReader) hx hb hts fw_BlockReader hown hw 0 rfl rfl 3 (by decide +kernel) (hts _ wd_140) rfl d_BlockReader_next_14 ?_
    obtain ⟨br_fault_4, br_fp_5, hm6, hm⟩ := tp_b2_e hm
    refine tp_callv (wr := []) (WS' := [(q_br, .inr (0, [.ref q_i, .ref q_t, .int br_at, .int br_end, .int br_tb, .long br_len, .int br_fault_4, .int br_fp_5])), (q_i, .inr (3, [.ref q_iB, .int i_c])), (q_iB, .inl (cB, 10000, .inl i_f)), (q_t, .inr (3, [.ref q_tB, .int t_c])), (q_tB, .inl (cB, 10000, .inl t_f))]) (va_runV (As := [.int (1 : Int32), .int br_end]) (rest := []) hF (ct_BlockReader_fail (l := l) (D := D) (cB := cB) (cI := cI) (tM := tM) (q_br := q_br) (q_i := q_i) (q_iB := q_iB) (q_t := q_t) (q_tB := q_tB) (br_at := br_at) (br_end := br_end) (br_tb := br_tb) (br_len := br_len) (br_fault := br_fault) (br_fp := br_fp) (i_c := i_c) (i_f := i_f) (t_c := t_c) (t_f := t_f) (x1 := (1 : Int32)) (x2 := br_end) (br_fault' := br_fault_4) (br_fp' := br_fp_5) hm6 _) (cwV 2 hts (tpG_V wd_145 wd_146 wd_147 wd_144 wd_143) rfl rfl rfl ⟨rfl, yd_BlockReader_fail⟩ ⟨Nat.le_of_ble_eq_true rfl, Nat.le_of_ble_eq_true rfl⟩) ⟨tp_blind, va_recv hw.1 hw.2.1 (ci := 0) (q0 := 0) rfl rfl, tp_pre hw [0, 1, 2, 3, 4] rfl rfl⟩ rfl rfl hl.1 rfl (lv_room (Nat.le_of_ble_eq_true rfl)) d_BlockReader_next_17 ⟨Nat.le_of_ble_eq_true rfl, Nat.le_of_ble_eq_true rfl⟩) hw [0, 1, 2, 3, 4] [] [0, 1, 2, 3, 4] rfl rfl rfl (by decide) rfl rfl (fun H locs hw => ?_)
    refine lv_iconst (v := (0 : Int32)) hx hb d_BlockReader_next_20 (by decide +kernel) ?_
    obtain ⟨rfl, rfl, rfl, rfl⟩ := tp_inj4 hm
    exact tp_iret hx hb hr hlocks hw d_BlockReader_next_21
end
abbrev rm_BlockReader_nextNumber : Room := { frames := 2, cells := 0, slots := 0, locals := 46 }
abbrev ws_BlockReader_nextNumber : List Cond := .code y_BlockReader_nextNumber c_BlockReader_nextNumber 2 (some .long) :: tpG
noncomputable def m_BlockReader_nextNumber (N : Nat) (x1 : Int32) (br_at : Int32) (br_end : Int32) (br_fault : Int32) (br_fp : Int32) (i_c : Int32) (i_f : Nat → Int32) : Option (Int64 × Int32 × Int32 × Int32) :=
  if x1 ≤ (br_end - br_at) then
    tp_b1 (m_Row_numberAt N ((br_at + x1) - x1) x1 i_c i_f) fun r2 =>
    some (r2, (br_at + x1), br_fault, br_fp)
  else
    tp_b2 (m_BlockReader_fail (1 : Int32) br_end br_fault br_fp) fun br_fault_4 br_fp_5 =>
    some ((0 : Int64), br_at, br_fault_4, br_fp_5)
section
variable {p : Program} {l : Launch} {e : Env} {s : State} {m : MethodId} {args : Array Value} {below : List Frame} {meth : Method} {c : Code} {A : Nat → Prop} {D : va_G} {cB cI : ClassId} {tM : Nat}
set_option maxHeartbeats 4000000 in
set_option maxRecDepth 100000 in
theorem ct_BlockReader_nextNumber {q_br q_i q_iB q_t q_tB : Nat} {br_at : Int32} {br_end : Int32} {br_tb : Int32} {br_len : Int64} {br_fault : Int32} {br_fp : Int32} {i_c : Int32} {i_f : Nat → Int32} {t_c : Int32} {t_f : Nat → Int32} {N : Nat} {x1 : Int32} {r : Int64} {br_at' : Int32} {br_fault' : Int32} {br_fp' : Int32} (hm : m_BlockReader_nextNumber N x1 br_at br_end br_fault br_fp i_c i_f = some (r, br_at', br_fault', br_fp')) (sz : Nat) : tp_Cl l y_BlockReader_nextNumber ws_BlockReader_nextNumber rm_BlockReader_nextNumber D (tp_ty cB cI) tM [.ref q_br, .int x1] [(q_br, .inr (0, [.ref q_i, .ref q_t, .int br_at, .int br_end, .int br_tb, .long br_len, .int br_fault, .int br_fp])), (q_i, .inr (3, [.ref q_iB, .int i_c])), (q_iB, .inl (cB, 10000, .inl i_f)), (q_t, .inr (3, [.ref q_tB, .int t_c])), (q_tB, .inl (cB, 10000, .inl t_f))] sz r [(q_br, .inr (0, [.ref q_i, .ref q_t, .int br_at', .int br_end, .int br_tb, .long br_len, .int br_fault', .int br_fp'])), (q_i, .inr (3, [.ref q_iB, .int i_c])), (q_iB, .inl (cB, 10000, .inl i_f)), (q_t, .inr (3, [.ref q_tB, .int t_c])), (q_tB, .inl (cB, 10000, .inl t_f))] := by
  refine Met.ofW (cc := c_BlockReader_nextNumber) (maxL := 2) (ret := (some .long)) (by decide) rfl ?_
  intro p e s m args below meth c s₁ B hml hv
  obtain ⟨rfl, hv⟩ := hv
  have hw := tp_entry hv
  generalize va_A [(q_br, .inr (0, [.ref q_i, .ref q_t, .int br_at, .int br_end, .int br_tb, .long br_len, .int br_fault, .int br_fp])), (q_i, .inr (3, [.ref q_iB, .int i_c])), (q_iB, .inl (cB, 10000, .inl i_f)), (q_t, .inr (3, [.ref q_tB, .int t_c])), (q_tB, .inl (cB, 10000, .inl t_f))] sz = A at hw ⊢
  have hx := B.exec
  have hb := B.bytes
  have hr := B.returns
  have hts0 := atoms_spec (ws := ws_BlockReader_nextNumber) B.pre
  have hts := fun w h => hts0 w (List.mem_cons_of_mem _ h)
  have hown : s.vm.findClass R_BlockReader = some m.cls := findClass_of_methodNamed B.named
  have hlocks := B.notSynchronized
  have hF : CallFix p m c c_BlockReader_nextNumber 2 s _ tpG R_BlockReader := ⟨hx, hb, hml, hown, hts⟩
  have hF2 : tp_F p m c c_BlockReader_nextNumber 2 s _ tpG R_BlockReader meth (some .long) := ⟨hF, hr, hlocks⟩
  have hl := lv_entry ([.ref q_br, .int x1]) (n := 2) (Nat.le_of_ble_eq_true rfl)
  rw [lg_entry_eq]
  generalize (lg_sl ([.ref q_br, .int x1]) ++ List.replicate (2 - (lg_sl ([.ref q_br, .int x1])).length) Slot.unset).toArray = ls at hl ⊢
  replace hl : lv_has ls 2 [(0, .ref q_br), (1, .int x1)] := hl
  unfold m_BlockReader_nextNumber at hm
  refine lv_iload_n hx hb d_BlockReader_nextNumber_0 rfl (lv_at hl 1 rfl) ?_
  refine lv_aload_n hx hb d_BlockReader_nextNumber_1 rfl (lv_at hl 0 rfl) ?_
  refine tp_get (v := .int br_end) (C := R_BlockReader) (T := T_BlockReader) hx hb hts fw_BlockReader hown hw 0 rfl rfl 3 (by decide +kernel) (hts _ wd_140) rfl d_BlockReader_nextNumber_2 ?_
  refine lv_aload_n hx hb d_BlockReader_nextNumber_5 rfl (lv_at hl 0 rfl) ?_
  refine tp_get (v := .int br_at) (C := R_BlockReader) (T := T_BlockReader) hx hb hts fw_BlockReader hown hw 0 rfl rfl 2 (by decide +kernel) (hts _ wd_139) rfl d_BlockReader_nextNumber_6 ?_
  refine lv_isub hx hb d_BlockReader_nextNumber_9 ?_
  refine lv_icmp_le (tgt := 24) hx hb d_BlockReader_nextNumber_10 (by decide +kernel) (fun hc1 => ?_) (fun hc1 => ?_)
  · replace hm := tp_it hc1 hm
    refine lv_aload_n hx hb d_BlockReader_nextNumber_24 rfl (lv_at hl 0 rfl) ?_
    refine lv_dup hx hb d_BlockReader_nextNumber_25 rfl ?_
    refine tp_get (v := .int br_at) (C := R_BlockReader) (T := T_BlockReader) hx hb hts fw_BlockReader hown hw 0 rfl rfl 2 (by decide +kernel) (hts _ wd_139) rfl d_BlockReader_nextNumber_26 ?_
    refine lv_iload_n hx hb d_BlockReader_nextNumber_29 rfl (lv_at hl 1 rfl) ?_
    refine lv_iadd hx hb d_BlockReader_nextNumber_30 ?_
    refine tp_put (v := .int (br_at + x1)) (C := R_BlockReader) (T := T_BlockReader) (WS' := [(q_br, .inr (0, [.ref q_i, .ref q_t, .int (br_at + x1), .int br_end, .int br_tb, .long br_len, .int br_fault, .int br_fp])), (q_i, .inr (3, [.ref q_iB, .int i_c])), (q_iB, .inl (cB, 10000, .inl i_f)), (q_t, .inr (3, [.ref q_tB, .int t_c])), (q_tB, .inl (cB, 10000, .inl t_f))]) hx hb hts fw_BlockReader ty_BlockReader ty_BlockReader_ok nm_BlockReader hown hw 0 rfl rfl 2 (by decide +kernel) (hts _ wd_139) rfl rfl rfl (Nat.le_of_ble_eq_true rfl) rfl d_BlockReader_nextNumber_31 (fun H locs hw => ?_)
    refine lv_aload_n hx hb d_BlockReader_nextNumber_34 rfl (lv_at hl 0 rfl) ?_
    refine tp_get (v := .ref q_i) (C := R_BlockReader) (T := T_BlockReader) hx hb hts fw_BlockReader hown hw 0 rfl rfl 0 (by decide +kernel) (hts _ wd_141) rfl d_BlockReader_nextNumber_35 ?_
    refine lv_aload_n hx hb d_BlockReader_nextNumber_38 rfl (lv_at hl 0 rfl) ?_
    refine tp_get (v := .int (br_at + x1)) (C := R_BlockReader) (T := T_BlockReader) hx hb hts fw_BlockReader hown hw 0 rfl rfl 2 (by decide +kernel) (hts _ wd_139) rfl d_BlockReader_nextNumber_39 ?_
    refine lv_iload_n hx hb d_BlockReader_nextNumber_42 rfl (lv_at hl 1 rfl) ?_
    refine lv_isub hx hb d_BlockReader_nextNumber_43 ?_
    refine lv_iload_n hx hb d_BlockReader_nextNumber_44 rfl (lv_at hl 1 rfl) ?_
    obtain ⟨r2, hm3, hm⟩ := tp_b1_e hm
    refine tp_calll (wr := [(q_br, .inr (0, [.ref q_i, .ref q_t, .int (br_at + x1), .int br_end, .int br_tb, .long br_len, .int br_fault, .int br_fp])), (q_t, .inr (3, [.ref q_tB, .int t_c])), (q_tB, .inl (cB, 10000, .inl t_f))]) (WS' := [(q_br, .inr (0, [.ref q_i, .ref q_t, .int (br_at + x1), .int br_end, .int br_tb, .long br_len, .int br_fault, .int br_fp])), (q_i, .inr (3, [.ref q_iB, .int i_c])), (q_iB, .inl (cB, 10000, .inl i_f)), (q_t, .inr (3, [.ref q_tB, .int t_c])), (q_tB, .inl (cB, 10000, .inl t_f))]) (va_runV (As := [.int ((br_at + x1) - x1), .int x1]) (rest := []) hF (ct_Row_numberAt (l := l) (D := D) (cB := cB) (cI := cI) (tM := tM) (q_a := q_i) (q_aB := q_iB) (a_c := i_c) (a_f := i_f) (x1 := ((br_at + x1) - x1)) (x2 := x1) (N := N) (r := r2) hm3 _) (cwV 2 hts (tpG_V wd_148 wd_33 wd_34 wd_3 wd_31) rfl rfl rfl ⟨rfl, yd_Row_numberAt⟩ ⟨Nat.le_of_ble_eq_true rfl, Nat.le_of_ble_eq_true rfl⟩) ⟨tp_blind, va_recv hw.1 hw.2.1 (ci := 3) (q0 := 1) rfl rfl, tp_pre hw [1, 2] rfl rfl⟩ rfl rfl hl.1 rfl (lv_room (Nat.le_of_ble_eq_true rfl)) d_BlockReader_nextNumber_45 ⟨Nat.le_of_ble_eq_true rfl, Nat.le_of_ble_eq_true rfl⟩) hw [1, 2] [0, 3, 4] [0, 3, 4, 1, 2] rfl rfl rfl (by decide) rfl rfl (fun H locs hw => ?_)
    obtain ⟨rfl, rfl, rfl, rfl⟩ := tp_inj4 hm
    exact tp_lret hx hb hr hlocks hw d_BlockReader_nextNumber_48
  · replace hm := tp_if hc1 hm
    refine lv_aload_n hx hb d_BlockReader_nextNumber_13 rfl (lv_at hl 0 rfl) ?_
    refine lv_iconst (v := (1 : Int32)) hx hb d_BlockReader_nextNumber_14 (by decide +kernel) ?_
    refine lv_aload_n hx hb d_BlockReader_nextNumber_15 rfl (lv_at hl 0 rfl) ?_
    refine tp_get (v := .int br_end) (C := R_BlockReader) (T := T_BlockReader) hx hb hts fw_BlockReader hown hw 0 rfl rfl 3 (by decide +kernel) (hts _ wd_140) rfl d_BlockReader_nextNumber_16 ?_
    obtain ⟨br_fault_4, br_fp_5, hm6, hm⟩ := tp_b2_e hm
    refine tp_callv (wr := []) (WS' := [(q_br, .inr (0, [.ref q_i, .ref q_t, .int br_at, .int br_end, .int br_tb, .long br_len, .int br_fault_4, .int br_fp_5])), (q_i, .inr (3, [.ref q_iB, .int i_c])), (q_iB, .inl (cB, 10000, .inl i_f)), (q_t, .inr (3, [.ref q_tB, .int t_c])), (q_tB, .inl (cB, 10000, .inl t_f))]) (va_runV (As := [.int (1 : Int32), .int br_end]) (rest := []) hF (ct_BlockReader_fail (l := l) (D := D) (cB := cB) (cI := cI) (tM := tM) (q_br := q_br) (q_i := q_i) (q_iB := q_iB) (q_t := q_t) (q_tB := q_tB) (br_at := br_at) (br_end := br_end) (br_tb := br_tb) (br_len := br_len) (br_fault := br_fault) (br_fp := br_fp) (i_c := i_c) (i_f := i_f) (t_c := t_c) (t_f := t_f) (x1 := (1 : Int32)) (x2 := br_end) (br_fault' := br_fault_4) (br_fp' := br_fp_5) hm6 _) (cwV 2 hts (tpG_V wd_145 wd_146 wd_147 wd_144 wd_143) rfl rfl rfl ⟨rfl, yd_BlockReader_fail⟩ ⟨Nat.le_of_ble_eq_true rfl, Nat.le_of_ble_eq_true rfl⟩) ⟨tp_blind, va_recv hw.1 hw.2.1 (ci := 0) (q0 := 0) rfl rfl, tp_pre hw [0, 1, 2, 3, 4] rfl rfl⟩ rfl rfl hl.1 rfl (lv_room (Nat.le_of_ble_eq_true rfl)) d_BlockReader_nextNumber_19 ⟨Nat.le_of_ble_eq_true rfl, Nat.le_of_ble_eq_true rfl⟩) hw [0, 1, 2, 3, 4] [] [0, 1, 2, 3, 4] rfl rfl rfl (by decide) rfl rfl (fun H locs hw => ?_)
    refine lv_lconst (v := (0 : Int64)) hx hb d_BlockReader_nextNumber_22 (by decide +kernel) ?_
    obtain ⟨rfl, rfl, rfl, rfl⟩ := tp_inj4 hm
    exact tp_lret hx hb hr hlocks hw d_BlockReader_nextNumber_23
end
abbrev rm_BlockReader_readLiterals : Room := { frames := 2, cells := 0, slots := 0, locals := 45 }
abbrev ws_BlockReader_readLiterals : List Cond := .code y_BlockReader_readLiterals c_BlockReader_readLiterals 4 none :: tpG
noncomputable def m_BlockReader_readLiterals_45 (N : Nat) (br_end : Int32) (br_tb : Int32) (br_len : Int64) (i_c : Int32) (i_f : Nat → Int32) (x2 : Int64) (br_at : Int32) (br_fault : Int32) (br_fp : Int32) (t_c : Int32) (t_f : Nat → Int32) : Option (Int32 × Int32 × Int32 × Int32 × (Nat → Int32)) :=
  if br_fault = 0 then
    tp_b2 (m_Row_putFrom N br_at (br_at + (Int64.toInt32 x2)) t_c t_f i_c i_f) fun a_c_12 a_f_13 =>
    tp_b0 (br_at + (Int64.toInt32 x2)) fun y15 =>
    some (y15, br_fault, br_fp, a_c_12, a_f_13)
  else
    some (br_at, br_fault, br_fp, t_c, t_f)
noncomputable def m_BlockReader_readLiterals_21 (N : Nat) (br_end : Int32) (br_tb : Int32) (br_len : Int64) (i_c : Int32) (i_f : Nat → Int32) (x2 : Int64) (br_at : Int32) (br_fault : Int32) (br_fp : Int32) (t_c : Int32) (t_f : Nat → Int32) : Option (Int32 × Int32 × Int32 × Int32 × (Nat → Int32)) :=
  if (lg_cmp x2 (Int32.toInt64 (br_end - br_at))) ≤ 0 then
    m_BlockReader_readLiterals_45 N br_end br_tb br_len i_c i_f  x2 br_at br_fault br_fp t_c t_f
  else
    tp_b2 (m_BlockReader_fail (1 : Int32) br_end br_fault br_fp) fun br_fault_8 br_fp_9 =>
    m_BlockReader_readLiterals_45 N br_end br_tb br_len i_c i_f  x2 br_at br_fault_8 br_fp_9 t_c t_f
noncomputable def m_BlockReader_readLiterals (N : Nat) (x1 : Int32) (x2 : Int64) (br_at : Int32) (br_end : Int32) (br_tb : Int32) (br_len : Int64) (br_fault : Int32) (br_fp : Int32) (i_c : Int32) (i_f : Nat → Int32) (t_c : Int32) (t_f : Nat → Int32) : Option (Int32 × Int32 × Int32 × Int32 × (Nat → Int32)) :=
  tp_b1 (m_BlockReader_made br_tb t_c) fun r1 =>
  if (lg_cmp x2 (br_len - (Int32.toInt64 r1))) ≤ 0 then
    m_BlockReader_readLiterals_21 N br_end br_tb br_len i_c i_f  x2 br_at br_fault br_fp t_c t_f
  else
    tp_b2 (m_BlockReader_fail (5 : Int32) x1 br_fault br_fp) fun br_fault_4 br_fp_5 =>
    m_BlockReader_readLiterals_21 N br_end br_tb br_len i_c i_f  x2 br_at br_fault_4 br_fp_5 t_c t_f
section
variable {p : Program} {l : Launch} {e : Env} {s : State} {m : MethodId} {args : Array Value} {below : List Frame} {meth : Method} {c : Code} {A : Nat → Prop} {D : va_G} {cB cI : ClassId} {tM : Nat}
set_option maxHeartbeats 4000000 in
set_option maxRecDepth 100000 in
theorem w_BlockReader_readLiterals_45 {q_br q_i q_iB q_t q_tB : Nat} {br_end : Int32} {br_tb : Int32} {br_len : Int64} {i_c : Int32} {i_f : Nat → Int32} {N : Nat} {br_at' : Int32} {br_fault' : Int32} {br_fp' : Int32} {t_c' : Int32} {t_f' : Nat → Int32} (hF2 : tp_F p m c c_BlockReader_readLiterals 4 s args tpG R_BlockReader meth none) : ∀ (x2 : Int64) (br_at : Int32) (br_fault : Int32) (br_fp : Int32) (t_c : Int32) (t_f : Nat → Int32) (H : Heap) (locs : List Loc) (ls : Array Slot), m_BlockReader_readLiterals_45 N br_end br_tb br_len i_c i_f  x2 br_at br_fault br_fp t_c t_f = some (br_at', br_fault', br_fp', t_c', t_f') → tp_Wd D (tp_ty cB cI) tM A s H locs [(q_br, .inr (0, [.ref q_i, .ref q_t, .int br_at, .int br_end, .int br_tb, .long br_len, .int br_fault, .int br_fp])), (q_i, .inr (3, [.ref q_iB, .int i_c])), (q_iB, .inl (cB, 10000, .inl i_f)), (q_t, .inr (3, [.ref q_tB, .int t_c])), (q_tB, .inl (cB, 10000, .inl t_f))] → lv_has ls 4 [(0, .ref q_br), (2, .long x2)] → W p l e rm_BlockReader_readLiterals s m args below meth c H locs 0 0 (MQ below (tp_Qv (S := Unit) D A (fun _ => [(q_br, .inr (0, [.ref q_i, .ref q_t, .int br_at', .int br_end, .int br_tb, .long br_len, .int br_fault', .int br_fp'])), (q_i, .inr (3, [.ref q_iB, .int i_c])), (q_iB, .inl (cB, 10000, .inl i_f)), (q_t, .inr (3, [.ref q_tB, .int t_c'])), (q_tB, .inl (cB, 10000, .inl t_f'))])) args s 0 0 A) (F0 m 45 ls []) := by
  obtain ⟨hF, hr, hlocks⟩ := id hF2
  obtain ⟨hx, hb, hml, hown, hts⟩ := id hF
  intro x2 br_at br_fault br_fp t_c t_f H locs ls hm hw hl
  unfold m_BlockReader_readLiterals_45 at hm
  refine lv_aload_n hx hb d_BlockReader_readLiterals_45 rfl (lv_at hl 0 rfl) ?_
  refine tp_get (v := .int br_fault) (C := R_BlockReader) (T := T_BlockReader) hx hb hts fw_BlockReader hown hw 0 rfl rfl 6 (by decide +kernel) (hts _ wd_137) rfl d_BlockReader_readLiterals_46 ?_
  refine lv_if_ne (tgt := 85) hx hb d_BlockReader_readLiterals_49 (by decide +kernel) (fun hc11 => ?_) (fun hc11 => ?_)
  · replace hm := tp_if hc11 hm
    obtain ⟨rfl, rfl, rfl, rfl, rfl⟩ := tp_inj5 hm
    exact tp_vret () hx hb hr hlocks hw d_BlockReader_readLiterals_85
  · replace hm := tp_it hc11 hm
    refine lv_aload_n hx hb d_BlockReader_readLiterals_52 rfl (lv_at hl 0 rfl) ?_
    refine tp_get (v := .ref q_t) (C := R_BlockReader) (T := T_BlockReader) hx hb hts fw_BlockReader hown hw 0 rfl rfl 1 (by decide +kernel) (hts _ wd_135) rfl d_BlockReader_readLiterals_53 ?_
    refine lv_aload_n hx hb d_BlockReader_readLiterals_56 rfl (lv_at hl 0 rfl) ?_
    refine tp_get (v := .ref q_i) (C := R_BlockReader) (T := T_BlockReader) hx hb hts fw_BlockReader hown hw 0 rfl rfl 0 (by decide +kernel) (hts _ wd_141) rfl d_BlockReader_readLiterals_57 ?_
    refine lv_aload_n hx hb d_BlockReader_readLiterals_60 rfl (lv_at hl 0 rfl) ?_
    refine tp_get (v := .int br_at) (C := R_BlockReader) (T := T_BlockReader) hx hb hts fw_BlockReader hown hw 0 rfl rfl 2 (by decide +kernel) (hts _ wd_139) rfl d_BlockReader_readLiterals_61 ?_
    refine lv_aload_n hx hb d_BlockReader_readLiterals_64 rfl (lv_at hl 0 rfl) ?_
    refine tp_get (v := .int br_at) (C := R_BlockReader) (T := T_BlockReader) hx hb hts fw_BlockReader hown hw 0 rfl rfl 2 (by decide +kernel) (hts _ wd_139) rfl d_BlockReader_readLiterals_65 ?_
    refine lv_lload_n hx hb d_BlockReader_readLiterals_68 rfl (lv_at hl 1 rfl) ?_
    refine lv_l2i (v := (Int64.toInt32 x2)) hx hb d_BlockReader_readLiterals_69 rfl ?_
    refine lv_iadd hx hb d_BlockReader_readLiterals_70 ?_
    obtain ⟨a_c_12, a_f_13, hm14, hm⟩ := tp_b2_e hm
    refine tp_callv (wr := [(q_br, .inr (0, [.ref q_i, .ref q_t, .int br_at, .int br_end, .int br_tb, .long br_len, .int br_fault, .int br_fp]))]) (WS' := [(q_br, .inr (0, [.ref q_i, .ref q_t, .int br_at, .int br_end, .int br_tb, .long br_len, .int br_fault, .int br_fp])), (q_i, .inr (3, [.ref q_iB, .int i_c])), (q_iB, .inl (cB, 10000, .inl i_f)), (q_t, .inr (3, [.ref q_tB, .int a_c_12])), (q_tB, .inl (cB, 10000, .inl a_f_13))]) (va_runV (As := [.ref q_i, .int br_at, .int (br_at + (Int64.toInt32 x2))]) (rest := []) hF (ct_Row_putFrom (l := l) (D := D) (cB := cB) (cI := cI) (tM := tM) (q_a := q_t) (q_aB := q_tB) (q_b := q_i) (q_bB := q_iB) (a_c := t_c) (a_f := t_f) (b_c := i_c) (b_f := i_f) (x2 := br_at) (x3 := (br_at + (Int64.toInt32 x2))) (N := N) (a_c' := a_c_12) (a_f' := a_f_13) hm14 _) (cwV 3 hts (tpG_V wd_154 wd_88 wd_89 wd_3 wd_86) rfl rfl rfl ⟨rfl, yd_Row_putFrom⟩ ⟨Nat.le_of_ble_eq_true rfl, Nat.le_of_ble_eq_true rfl⟩) ⟨tp_blind, va_recv hw.1 hw.2.1 (ci := 3) (q0 := 3) rfl rfl, tp_pre hw [3, 4, 1, 2] rfl rfl⟩ rfl rfl hl.1 rfl (lv_room (Nat.le_of_ble_eq_true rfl)) d_BlockReader_readLiterals_71 ⟨Nat.le_of_ble_eq_true rfl, Nat.le_of_ble_eq_true rfl⟩) hw [3, 4, 1, 2] [0] [0, 3, 4, 1, 2] rfl rfl rfl (by decide) rfl rfl (fun H locs hw => ?_)
    refine lv_aload_n hx hb d_BlockReader_readLiterals_74 rfl (lv_at hl 0 rfl) ?_
    refine lv_dup hx hb d_BlockReader_readLiterals_75 rfl ?_
    refine tp_get (v := .int br_at) (C := R_BlockReader) (T := T_BlockReader) hx hb hts fw_BlockReader hown hw 0 rfl rfl 2 (by decide +kernel) (hts _ wd_139) rfl d_BlockReader_readLiterals_76 ?_
    refine lv_lload_n hx hb d_BlockReader_readLiterals_79 rfl (lv_at hl 1 rfl) ?_
    refine lv_l2i (v := (Int64.toInt32 x2)) hx hb d_BlockReader_readLiterals_80 rfl ?_
    refine lv_iadd hx hb d_BlockReader_readLiterals_81 ?_
    obtain ⟨y15, ey15, hm⟩ := tp_b0_e hm
    refine tp_topi ey15 ?_
    refine tp_put (v := .int y15) (C := R_BlockReader) (T := T_BlockReader) (WS' := [(q_br, .inr (0, [.ref q_i, .ref q_t, .int y15, .int br_end, .int br_tb, .long br_len, .int br_fault, .int br_fp])), (q_i, .inr (3, [.ref q_iB, .int i_c])), (q_iB, .inl (cB, 10000, .inl i_f)), (q_t, .inr (3, [.ref q_tB, .int a_c_12])), (q_tB, .inl (cB, 10000, .inl a_f_13))]) hx hb hts fw_BlockReader ty_BlockReader ty_BlockReader_ok nm_BlockReader hown hw 0 rfl rfl 2 (by decide +kernel) (hts _ wd_139) rfl rfl rfl (Nat.le_of_ble_eq_true rfl) rfl d_BlockReader_readLiterals_82 (fun H locs hw => ?_)
    obtain ⟨rfl, rfl, rfl, rfl, rfl⟩ := tp_inj5 hm
    exact tp_vret () hx hb hr hlocks hw d_BlockReader_readLiterals_85
set_option maxHeartbeats 4000000 in
set_option maxRecDepth 100000 in
theorem w_BlockReader_readLiterals_21 {q_br q_i q_iB q_t q_tB : Nat} {br_end : Int32} {br_tb : Int32} {br_len : Int64} {i_c : Int32} {i_f : Nat → Int32} {N : Nat} {br_at' : Int32} {br_fault' : Int32} {br_fp' : Int32} {t_c' : Int32} {t_f' : Nat → Int32} (hF2 : tp_F p m c c_BlockReader_readLiterals 4 s args tpG R_BlockReader meth none) : ∀ (x2 : Int64) (br_at : Int32) (br_fault : Int32) (br_fp : Int32) (t_c : Int32) (t_f : Nat → Int32) (H : Heap) (locs : List Loc) (ls : Array Slot), m_BlockReader_readLiterals_21 N br_end br_tb br_len i_c i_f  x2 br_at br_fault br_fp t_c t_f = some (br_at', br_fault', br_fp', t_c', t_f') → tp_Wd D (tp_ty cB cI) tM A s H locs [(q_br, .inr (0, [.ref q_i, .ref q_t, .int br_at, .int br_end, .int br_tb, .long br_len, .int br_fault, .int br_fp])), (q_i, .inr (3, [.ref q_iB, .int i_c])), (q_iB, .inl (cB, 10000, .inl i_f)), (q_t, .inr (3, [.ref q_tB, .int t_c])), (q_tB, .inl (cB, 10000, .inl t_f))] → lv_has ls 4 [(0, .ref q_br), (2, .long x2)] → W p l e rm_BlockReader_readLiterals s m args below meth c H locs 0 0 (MQ below (tp_Qv (S := Unit) D A (fun _ => [(q_br, .inr (0, [.ref q_i, .ref q_t, .int br_at', .int br_end, .int br_tb, .long br_len, .int br_fault', .int br_fp'])), (q_i, .inr (3, [.ref q_iB, .int i_c])), (q_iB, .inl (cB, 10000, .inl i_f)), (q_t, .inr (3, [.ref q_tB, .int t_c'])), (q_tB, .inl (cB, 10000, .inl t_f'))])) args s 0 0 A) (F0 m 21 ls []) := by
  obtain ⟨hF, hr, hlocks⟩ := id hF2
  obtain ⟨hx, hb, hml, hown, hts⟩ := id hF
  intro x2 br_at br_fault br_fp t_c t_f H locs ls hm hw hl
  unfold m_BlockReader_readLiterals_21 at hm
  refine lv_lload_n hx hb d_BlockReader_readLiterals_21 rfl (lv_at hl 1 rfl) ?_
  refine lv_aload_n hx hb d_BlockReader_readLiterals_22 rfl (lv_at hl 0 rfl) ?_
  refine tp_get (v := .int br_end) (C := R_BlockReader) (T := T_BlockReader) hx hb hts fw_BlockReader hown hw 0 rfl rfl 3 (by decide +kernel) (hts _ wd_140) rfl d_BlockReader_readLiterals_23 ?_
  refine lv_aload_n hx hb d_BlockReader_readLiterals_26 rfl (lv_at hl 0 rfl) ?_
  refine tp_get (v := .int br_at) (C := R_BlockReader) (T := T_BlockReader) hx hb hts fw_BlockReader hown hw 0 rfl rfl 2 (by decide +kernel) (hts _ wd_139) rfl d_BlockReader_readLiterals_27 ?_
  refine lv_isub hx hb d_BlockReader_readLiterals_30 ?_
  refine lv_i2l (v := (Int32.toInt64 (br_end - br_at))) hx hb d_BlockReader_readLiterals_31 rfl ?_
  refine W.lcmp hx hb d_BlockReader_readLiterals_32 ?_
  refine lv_if_le (tgt := 45) hx hb d_BlockReader_readLiterals_33 (by decide +kernel) (fun hc7 => ?_) (fun hc7 => ?_)
  · replace hm := tp_it hc7 hm
    exact w_BlockReader_readLiterals_45 hF2  _ _ _ _ _ _ _ _ _ hm hw (lv_sub hl [0, 1] rfl)
  · replace hm := tp_if hc7 hm
    refine lv_aload_n hx hb d_BlockReader_readLiterals_36 rfl (lv_at hl 0 rfl) ?_
    refine lv_iconst (v := (1 : Int32)) hx hb d_BlockReader_readLiterals_37 (by decide +kernel) ?_
    refine lv_aload_n hx hb d_BlockReader_readLiterals_38 rfl (lv_at hl 0 rfl) ?_
    refine tp_get (v := .int br_end) (C := R_BlockReader) (T := T_BlockReader) hx hb hts fw_BlockReader hown hw 0 rfl rfl 3 (by decide +kernel) (hts _ wd_140) rfl d_BlockReader_readLiterals_39 ?_
    obtain ⟨br_fault_8, br_fp_9, hm10, hm⟩ := tp_b2_e hm
    refine tp_callv (wr := []) (WS' := [(q_br, .inr (0, [.ref q_i, .ref q_t, .int br_at, .int br_end, .int br_tb, .long br_len, .int br_fault_8, .int br_fp_9])), (q_i, .inr (3, [.ref q_iB, .int i_c])), (q_iB, .inl (cB, 10000, .inl i_f)), (q_t, .inr (3, [.ref q_tB, .int t_c])), (q_tB, .inl (cB, 10000, .inl t_f))]) (va_runV (As := [.int (1 : Int32), .int br_end]) (rest := []) hF (ct_BlockReader_fail (l := l) (D := D) (cB := cB) (cI := cI) (tM := tM) (q_br := q_br) (q_i := q_i) (q_iB := q_iB) (q_t := q_t) (q_tB := q_tB) (br_at := br_at) (br_end := br_end) (br_tb := br_tb) (br_len := br_len) (br_fault := br_fault) (br_fp := br_fp) (i_c := i_c) (i_f := i_f) (t_c := t_c) (t_f := t_f) (x1 := (1 : Int32)) (x2 := br_end) (br_fault' := br_fault_8) (br_fp' := br_fp_9) hm10 _) (cwV 2 hts (tpG_V wd_145 wd_146 wd_147 wd_144 wd_143) rfl rfl rfl ⟨rfl, yd_BlockReader_fail⟩ ⟨Nat.le_of_ble_eq_true rfl, Nat.le_of_ble_eq_true rfl⟩) ⟨tp_blind, va_recv hw.1 hw.2.1 (ci := 0) (q0 := 0) rfl rfl, tp_pre hw [0, 1, 2, 3, 4] rfl rfl⟩ rfl rfl hl.1 rfl (lv_room (Nat.le_of_ble_eq_true rfl)) d_BlockReader_readLiterals_42 ⟨Nat.le_of_ble_eq_true rfl, Nat.le_of_ble_eq_true rfl⟩) hw [0, 1, 2, 3, 4] [] [0, 1, 2, 3, 4] rfl rfl rfl (by decide) rfl rfl (fun H locs hw => ?_)
    exact w_BlockReader_readLiterals_45 hF2  _ _ _ _ _ _ _ _ _ hm hw (lv_sub hl [0, 1] rfl)
set_option maxHeartbeats 4000000 in
set_option maxRecDepth 100000 in
theorem ct_BlockReader_readLiterals {q_br q_i q_iB q_t q_tB : Nat} {br_at : Int32} {br_end : Int32} {br_tb : Int32} {br_len : Int64} {br_fault : Int32} {br_fp : Int32} {i_c : Int32} {i_f : Nat → Int32} {t_c : Int32} {t_f : Nat → Int32} {N : Nat} {x1 : Int32} {x2 : Int64} {br_at' : Int32} {br_fault' : Int32} {br_fp' : Int32} {t_c' : Int32} {t_f' : Nat → Int32} (hm : m_BlockReader_readLiterals N x1 x2 br_at br_end br_tb br_len br_fault br_fp i_c i_f t_c t_f = some (br_at', br_fault', br_fp', t_c', t_f')) (sz : Nat) : tp_Cv l y_BlockReader_readLiterals ws_BlockReader_readLiterals rm_BlockReader_readLiterals D (tp_ty cB cI) tM [.ref q_br, .int x1, .long x2] [(q_br, .inr (0, [.ref q_i, .ref q_t, .int br_at, .int br_end, .int br_tb, .long br_len, .int br_fault, .int br_fp])), (q_i, .inr (3, [.ref q_iB, .int i_c])), (q_iB, .inl (cB, 10000, .inl i_f)), (q_t, .inr (3, [.ref q_tB, .int t_c])), (q_tB, .inl (cB, 10000, .inl t_f))] sz [(q_br, .inr (0, [.ref q_i, .ref q_t, .int br_at', .int br_end, .int br_tb, .long br_len, .int br_fault', .int br_fp'])), (q_i, .inr (3, [.ref q_iB, .int i_c])), (q_iB, .inl (cB, 10000, .inl i_f)), (q_t, .inr (3, [.ref q_tB, .int t_c'])), (q_tB, .inl (cB, 10000, .inl t_f'))] := by
  refine Met.ofW (cc := c_BlockReader_readLiterals) (maxL := 4) (ret := none) (by decide) rfl ?_
  intro p e s m args below meth c s₁ B hml hv
  obtain ⟨rfl, hv⟩ := hv
  have hw := tp_entry hv
  generalize va_A [(q_br, .inr (0, [.ref q_i, .ref q_t, .int br_at, .int br_end, .int br_tb, .long br_len, .int br_fault, .int br_fp])), (q_i, .inr (3, [.ref q_iB, .int i_c])), (q_iB, .inl (cB, 10000, .inl i_f)), (q_t, .inr (3, [.ref q_tB, .int t_c])), (q_tB, .inl (cB, 10000, .inl t_f))] sz = A at hw ⊢
  have hx := B.exec
  have hb := B.bytes
  have hr := B.returns
  have hts0 := atoms_spec (ws := ws_BlockReader_readLiterals) B.pre
  have hts := fun w h => hts0 w (List.mem_cons_of_mem _ h)
  have hown : s.vm.findClass R_BlockReader = some m.cls := findClass_of_methodNamed B.named
  have hlocks := B.notSynchronized
  have hF : CallFix p m c c_BlockReader_readLiterals 4 s _ tpG R_BlockReader := ⟨hx, hb, hml, hown, hts⟩
  have hF2 : tp_F p m c c_BlockReader_readLiterals 4 s _ tpG R_BlockReader meth none := ⟨hF, hr, hlocks⟩
  have hl := lv_entry ([.ref q_br, .int x1, .long x2]) (n := 4) (Nat.le_of_ble_eq_true rfl)
  rw [lg_entry_eq]
  generalize (lg_sl ([.ref q_br, .int x1, .long x2]) ++ List.replicate (4 - (lg_sl ([.ref q_br, .int x1, .long x2])).length) Slot.unset).toArray = ls at hl ⊢
  replace hl : lv_has ls 4 [(0, .ref q_br), (1, .int x1), (2, .long x2)] := hl
  unfold m_BlockReader_readLiterals at hm
  refine lv_lload_n hx hb d_BlockReader_readLiterals_0 rfl (lv_at hl 2 rfl) ?_
  refine lv_aload_n hx hb d_BlockReader_readLiterals_1 rfl (lv_at hl 0 rfl) ?_
  refine tp_get (v := .long br_len) (C := R_BlockReader) (T := T_BlockReader) hx hb hts fw_BlockReader hown hw 0 rfl rfl 5 (by decide +kernel) (hts _ wd_149) rfl d_BlockReader_readLiterals_2 ?_
  refine lv_aload_n hx hb d_BlockReader_readLiterals_5 rfl (lv_at hl 0 rfl) ?_
  obtain ⟨r1, hm2, hm⟩ := tp_b1_e hm
  refine tp_calli (wr := []) (WS' := [(q_br, .inr (0, [.ref q_i, .ref q_t, .int br_at, .int br_end, .int br_tb, .long br_len, .int br_fault, .int br_fp])), (q_i, .inr (3, [.ref q_iB, .int i_c])), (q_iB, .inl (cB, 10000, .inl i_f)), (q_t, .inr (3, [.ref q_tB, .int t_c])), (q_tB, .inl (cB, 10000, .inl t_f))]) (va_runV (As := []) (rest := [.long br_len, .long x2]) hF (ct_BlockReader_made (l := l) (D := D) (cB := cB) (cI := cI) (tM := tM) (q_br := q_br) (q_i := q_i) (q_iB := q_iB) (q_t := q_t) (q_tB := q_tB) (br_at := br_at) (br_end := br_end) (br_tb := br_tb) (br_len := br_len) (br_fault := br_fault) (br_fp := br_fp) (i_c := i_c) (i_f := i_f) (t_c := t_c) (t_f := t_f) (r := r1) hm2 _) (cwV 0 hts (tpG_V wd_151 wd_152 wd_153 wd_144 wd_150) rfl rfl rfl ⟨rfl, yd_BlockReader_made⟩ ⟨Nat.le_of_ble_eq_true rfl, Nat.le_of_ble_eq_true rfl⟩) ⟨tp_blind, va_recv hw.1 hw.2.1 (ci := 0) (q0 := 0) rfl rfl, tp_pre hw [0, 1, 2, 3, 4] rfl rfl⟩ rfl rfl hl.1 rfl (lv_room (Nat.le_of_ble_eq_true rfl)) d_BlockReader_readLiterals_6 ⟨Nat.le_of_ble_eq_true rfl, Nat.le_of_ble_eq_true rfl⟩) hw [0, 1, 2, 3, 4] [] [0, 1, 2, 3, 4] rfl rfl rfl (by decide) rfl rfl (fun H locs hw => ?_)
  refine lv_i2l (v := (Int32.toInt64 r1)) hx hb d_BlockReader_readLiterals_9 rfl ?_
  refine lv_lsub hx hb d_BlockReader_readLiterals_10 ?_
  refine W.lcmp hx hb d_BlockReader_readLiterals_11 ?_
  refine lv_if_le (tgt := 21) hx hb d_BlockReader_readLiterals_12 (by decide +kernel) (fun hc3 => ?_) (fun hc3 => ?_)
  · replace hm := tp_it hc3 hm
    exact w_BlockReader_readLiterals_21 hF2  _ _ _ _ _ _ _ _ _ hm hw (lv_sub hl [0, 2] rfl)
  · replace hm := tp_if hc3 hm
    refine lv_aload_n hx hb d_BlockReader_readLiterals_15 rfl (lv_at hl 0 rfl) ?_
    refine lv_iconst (v := (5 : Int32)) hx hb d_BlockReader_readLiterals_16 (by decide +kernel) ?_
    refine lv_iload_n hx hb d_BlockReader_readLiterals_17 rfl (lv_at hl 1 rfl) ?_
    obtain ⟨br_fault_4, br_fp_5, hm6, hm⟩ := tp_b2_e hm
    refine tp_callv (wr := []) (WS' := [(q_br, .inr (0, [.ref q_i, .ref q_t, .int br_at, .int br_end, .int br_tb, .long br_len, .int br_fault_4, .int br_fp_5])), (q_i, .inr (3, [.ref q_iB, .int i_c])), (q_iB, .inl (cB, 10000, .inl i_f)), (q_t, .inr (3, [.ref q_tB, .int t_c])), (q_tB, .inl (cB, 10000, .inl t_f))]) (va_runV (As := [.int (5 : Int32), .int x1]) (rest := []) hF (ct_BlockReader_fail (l := l) (D := D) (cB := cB) (cI := cI) (tM := tM) (q_br := q_br) (q_i := q_i) (q_iB := q_iB) (q_t := q_t) (q_tB := q_tB) (br_at := br_at) (br_end := br_end) (br_tb := br_tb) (br_len := br_len) (br_fault := br_fault) (br_fp := br_fp) (i_c := i_c) (i_f := i_f) (t_c := t_c) (t_f := t_f) (x1 := (5 : Int32)) (x2 := x1) (br_fault' := br_fault_4) (br_fp' := br_fp_5) hm6 _) (cwV 2 hts (tpG_V wd_145 wd_146 wd_147 wd_144 wd_143) rfl rfl rfl ⟨rfl, yd_BlockReader_fail⟩ ⟨Nat.le_of_ble_eq_true rfl, Nat.le_of_ble_eq_true rfl⟩) ⟨tp_blind, va_recv hw.1 hw.2.1 (ci := 0) (q0 := 0) rfl rfl, tp_pre hw [0, 1, 2, 3, 4] rfl rfl⟩ rfl rfl hl.1 rfl (lv_room (Nat.le_of_ble_eq_true rfl)) d_BlockReader_readLiterals_18 ⟨Nat.le_of_ble_eq_true rfl, Nat.le_of_ble_eq_true rfl⟩) hw [0, 1, 2, 3, 4] [] [0, 1, 2, 3, 4] rfl rfl rfl (by decide) rfl rfl (fun H locs hw => ?_)
    exact w_BlockReader_readLiterals_21 hF2  _ _ _ _ _ _ _ _ _ hm hw (lv_sub hl [0, 2] rfl)
end
abbrev rm_BlockReader_readCopy : Room := { frames := 2, cells := 0, slots := 0, locals := 44 }
abbrev ws_BlockReader_readCopy : List Cond := .code y_BlockReader_readCopy c_BlockReader_readCopy 5 none :: tpG
noncomputable def m_BlockReader_readCopy_44 (N : Nat) (br_tb : Int32) (br_len : Int64) (x2 : Int32) (x3 : Int64) (br_fault : Int32) (br_fp : Int32) (t_c : Int32) (t_f : Nat → Int32) : Option (Int32 × Int32 × Int32 × (Nat → Int32)) :=
  if br_fault = 0 then
    tp_b2 (m_Row_putBack N (Int64.toInt32 x3) x2 t_c t_f) fun a_c_15 a_f_16 =>
    some (br_fault, br_fp, a_c_15, a_f_16)
  else
    some (br_fault, br_fp, t_c, t_f)
noncomputable def m_BlockReader_readCopy_22 (N : Nat) (br_tb : Int32) (br_len : Int64) (x1 : Int32) (x2 : Int32) (x3 : Int64) (br_fault : Int32) (br_fp : Int32) (t_c : Int32) (t_f : Nat → Int32) : Option (Int32 × Int32 × Int32 × (Nat → Int32)) :=
  tp_b1 (m_BlockReader_made br_tb t_c) fun r8 =>
  if (lg_cmp (Int32.toInt64 x2) (br_len - (Int32.toInt64 r8))) ≤ 0 then
    m_BlockReader_readCopy_44 N br_tb br_len  x2 x3 br_fault br_fp t_c t_f
  else
    tp_b2 (m_BlockReader_fail (5 : Int32) x1 br_fault br_fp) fun br_fault_11 br_fp_12 =>
    m_BlockReader_readCopy_44 N br_tb br_len  x2 x3 br_fault_11 br_fp_12 t_c t_f
noncomputable def m_BlockReader_readCopy_16 (N : Nat) (br_tb : Int32) (br_len : Int64) (x1 : Int32) (x2 : Int32) (x3 : Int64) (br_fault : Int32) (br_fp : Int32) (t_c : Int32) (t_f : Nat → Int32) : Option (Int32 × Int32 × Int32 × (Nat → Int32)) :=
  tp_b2 (m_BlockReader_fail (4 : Int32) x1 br_fault br_fp) fun br_fault_5 br_fp_6 =>
  m_BlockReader_readCopy_22 N br_tb br_len  x1 x2 x3 br_fault_5 br_fp_6 t_c t_f
noncomputable def m_BlockReader_readCopy (N : Nat) (x1 : Int32) (x2 : Int32) (x3 : Int64) (br_tb : Int32) (br_len : Int64) (br_fault : Int32) (br_fp : Int32) (t_c : Int32) (t_f : Nat → Int32) : Option (Int32 × Int32 × Int32 × (Nat → Int32)) :=
  if (lg_cmp x3 (0 : Int64)) = 0 then
    m_BlockReader_readCopy_16 N br_tb br_len  x1 x2 x3 br_fault br_fp t_c t_f
  else
    tp_b1 (m_BlockReader_made br_tb t_c) fun r2 =>
    if (lg_cmp x3 (Int32.toInt64 r2)) ≤ 0 then
      m_BlockReader_readCopy_22 N br_tb br_len  x1 x2 x3 br_fault br_fp t_c t_f
    else
      m_BlockReader_readCopy_16 N br_tb br_len  x1 x2 x3 br_fault br_fp t_c t_f
section
variable {p : Program} {l : Launch} {e : Env} {s : State} {m : MethodId} {args : Array Value} {below : List Frame} {meth : Method} {c : Code} {A : Nat → Prop} {D : va_G} {cB cI : ClassId} {tM : Nat}
set_option maxHeartbeats 4000000 in
set_option maxRecDepth 100000 in
theorem w_BlockReader_readCopy_44 {q_br q_i q_iB q_t q_tB : Nat} {br_at : Int32} {br_end : Int32} {br_tb : Int32} {br_len : Int64} {i_c : Int32} {i_f : Nat → Int32} {N : Nat} {br_fault' : Int32} {br_fp' : Int32} {t_c' : Int32} {t_f' : Nat → Int32} (hF2 : tp_F p m c c_BlockReader_readCopy 5 s args tpG R_BlockReader meth none) : ∀ (x2 : Int32) (x3 : Int64) (br_fault : Int32) (br_fp : Int32) (t_c : Int32) (t_f : Nat → Int32) (H : Heap) (locs : List Loc) (ls : Array Slot), m_BlockReader_readCopy_44 N br_tb br_len  x2 x3 br_fault br_fp t_c t_f = some (br_fault', br_fp', t_c', t_f') → tp_Wd D (tp_ty cB cI) tM A s H locs [(q_br, .inr (0, [.ref q_i, .ref q_t, .int br_at, .int br_end, .int br_tb, .long br_len, .int br_fault, .int br_fp])), (q_i, .inr (3, [.ref q_iB, .int i_c])), (q_iB, .inl (cB, 10000, .inl i_f)), (q_t, .inr (3, [.ref q_tB, .int t_c])), (q_tB, .inl (cB, 10000, .inl t_f))] → lv_has ls 5 [(0, .ref q_br), (2, .int x2), (3, .long x3)] → W p l e rm_BlockReader_readCopy s m args below meth c H locs 0 0 (MQ below (tp_Qv (S := Unit) D A (fun _ => [(q_br, .inr (0, [.ref q_i, .ref q_t, .int br_at, .int br_end, .int br_tb, .long br_len, .int br_fault', .int br_fp'])), (q_i, .inr (3, [.ref q_iB, .int i_c])), (q_iB, .inl (cB, 10000, .inl i_f)), (q_t, .inr (3, [.ref q_tB, .int t_c'])), (q_tB, .inl (cB, 10000, .inl t_f'))])) args s 0 0 A) (F0 m 44 ls []) := by
  obtain ⟨hF, hr, hlocks⟩ := id hF2
  obtain ⟨hx, hb, hml, hown, hts⟩ := id hF
  intro x2 x3 br_fault br_fp t_c t_f H locs ls hm hw hl
  unfold m_BlockReader_readCopy_44 at hm
  refine lv_aload_n hx hb d_BlockReader_readCopy_44 rfl (lv_at hl 0 rfl) ?_
  refine tp_get (v := .int br_fault) (C := R_BlockReader) (T := T_BlockReader) hx hb hts fw_BlockReader hown hw 0 rfl rfl 6 (by decide +kernel) (hts _ wd_137) rfl d_BlockReader_readCopy_45 ?_
  refine lv_if_ne (tgt := 61) hx hb d_BlockReader_readCopy_48 (by decide +kernel) (fun hc14 => ?_) (fun hc14 => ?_)
  · replace hm := tp_if hc14 hm
    obtain ⟨rfl, rfl, rfl, rfl⟩ := tp_inj4 hm
    exact tp_vret () hx hb hr hlocks hw d_BlockReader_readCopy_61
  · replace hm := tp_it hc14 hm
    refine lv_aload_n hx hb d_BlockReader_readCopy_51 rfl (lv_at hl 0 rfl) ?_
    refine tp_get (v := .ref q_t) (C := R_BlockReader) (T := T_BlockReader) hx hb hts fw_BlockReader hown hw 0 rfl rfl 1 (by decide +kernel) (hts _ wd_135) rfl d_BlockReader_readCopy_52 ?_
    refine lv_lload_n hx hb d_BlockReader_readCopy_55 rfl (lv_at hl 2 rfl) ?_
    refine lv_l2i (v := (Int64.toInt32 x3)) hx hb d_BlockReader_readCopy_56 rfl ?_
    refine lv_iload_n hx hb d_BlockReader_readCopy_57 rfl (lv_at hl 1 rfl) ?_
    obtain ⟨a_c_15, a_f_16, hm17, hm⟩ := tp_b2_e hm
    refine tp_callv (wr := [(q_br, .inr (0, [.ref q_i, .ref q_t, .int br_at, .int br_end, .int br_tb, .long br_len, .int br_fault, .int br_fp])), (q_i, .inr (3, [.ref q_iB, .int i_c])), (q_iB, .inl (cB, 10000, .inl i_f))]) (WS' := [(q_br, .inr (0, [.ref q_i, .ref q_t, .int br_at, .int br_end, .int br_tb, .long br_len, .int br_fault, .int br_fp])), (q_i, .inr (3, [.ref q_iB, .int i_c])), (q_iB, .inl (cB, 10000, .inl i_f)), (q_t, .inr (3, [.ref q_tB, .int a_c_15])), (q_tB, .inl (cB, 10000, .inl a_f_16))]) (va_runV (As := [.int (Int64.toInt32 x3), .int x2]) (rest := []) hF (ct_Row_putBack (l := l) (D := D) (cB := cB) (cI := cI) (tM := tM) (q_a := q_t) (q_aB := q_tB) (a_c := t_c) (a_f := t_f) (x1 := (Int64.toInt32 x3)) (x2 := x2) (N := N) (a_c' := a_c_15) (a_f' := a_f_16) hm17 _) (cwV 2 hts (tpG_V wd_156 wd_157 wd_158 wd_3 wd_155) rfl rfl rfl ⟨rfl, yd_Row_putBack⟩ ⟨Nat.le_of_ble_eq_true rfl, Nat.le_of_ble_eq_true rfl⟩) ⟨tp_blind, va_recv hw.1 hw.2.1 (ci := 3) (q0 := 3) rfl rfl, tp_pre hw [3, 4] rfl rfl⟩ rfl rfl hl.1 rfl (lv_room (Nat.le_of_ble_eq_true rfl)) d_BlockReader_readCopy_58 ⟨Nat.le_of_ble_eq_true rfl, Nat.le_of_ble_eq_true rfl⟩) hw [3, 4] [0, 1, 2] [0, 1, 2, 3, 4] rfl rfl rfl (by decide) rfl rfl (fun H locs hw => ?_)
    obtain ⟨rfl, rfl, rfl, rfl⟩ := tp_inj4 hm
    exact tp_vret () hx hb hr hlocks hw d_BlockReader_readCopy_61
set_option maxHeartbeats 4000000 in
set_option maxRecDepth 100000 in
theorem w_BlockReader_readCopy_22 {q_br q_i q_iB q_t q_tB : Nat} {br_at : Int32} {br_end : Int32} {br_tb : Int32} {br_len : Int64} {i_c : Int32} {i_f : Nat → Int32} {N : Nat} {br_fault' : Int32} {br_fp' : Int32} {t_c' : Int32} {t_f' : Nat → Int32} (hF2 : tp_F p m c c_BlockReader_readCopy 5 s args tpG R_BlockReader meth none) : ∀ (x1 : Int32) (x2 : Int32) (x3 : Int64) (br_fault : Int32) (br_fp : Int32) (t_c : Int32) (t_f : Nat → Int32) (H : Heap) (locs : List Loc) (ls : Array Slot), m_BlockReader_readCopy_22 N br_tb br_len  x1 x2 x3 br_fault br_fp t_c t_f = some (br_fault', br_fp', t_c', t_f') → tp_Wd D (tp_ty cB cI) tM A s H locs [(q_br, .inr (0, [.ref q_i, .ref q_t, .int br_at, .int br_end, .int br_tb, .long br_len, .int br_fault, .int br_fp])), (q_i, .inr (3, [.ref q_iB, .int i_c])), (q_iB, .inl (cB, 10000, .inl i_f)), (q_t, .inr (3, [.ref q_tB, .int t_c])), (q_tB, .inl (cB, 10000, .inl t_f))] → lv_has ls 5 [(0, .ref q_br), (1, .int x1), (2, .int x2), (3, .long x3)] → W p l e rm_BlockReader_readCopy s m args below meth c H locs 0 0 (MQ below (tp_Qv (S := Unit) D A (fun _ => [(q_br, .inr (0, [.ref q_i, .ref q_t, .int br_at, .int br_end, .int br_tb, .long br_len, .int br_fault', .int br_fp'])), (q_i, .inr (3, [.ref q_iB, .int i_c])), (q_iB, .inl (cB, 10000, .inl i_f)), (q_t, .inr (3, [.ref q_tB, .int t_c'])), (q_tB, .inl (cB, 10000, .inl t_f'))])) args s 0 0 A) (F0 m 22 ls []) := by
  obtain ⟨hF, hr, hlocks⟩ := id hF2
  obtain ⟨hx, hb, hml, hown, hts⟩ := id hF
  intro x1 x2 x3 br_fault br_fp t_c t_f H locs ls hm hw hl
  unfold m_BlockReader_readCopy_22 at hm
  refine lv_iload_n hx hb d_BlockReader_readCopy_22 rfl (lv_at hl 2 rfl) ?_
  refine lv_i2l (v := (Int32.toInt64 x2)) hx hb d_BlockReader_readCopy_23 rfl ?_
  refine lv_aload_n hx hb d_BlockReader_readCopy_24 rfl (lv_at hl 0 rfl) ?_
  refine tp_get (v := .long br_len) (C := R_BlockReader) (T := T_BlockReader) hx hb hts fw_BlockReader hown hw 0 rfl rfl 5 (by decide +kernel) (hts _ wd_149) rfl d_BlockReader_readCopy_25 ?_
  refine lv_aload_n hx hb d_BlockReader_readCopy_28 rfl (lv_at hl 0 rfl) ?_
  obtain ⟨r8, hm9, hm⟩ := tp_b1_e hm
  refine tp_calli (wr := []) (WS' := [(q_br, .inr (0, [.ref q_i, .ref q_t, .int br_at, .int br_end, .int br_tb, .long br_len, .int br_fault, .int br_fp])), (q_i, .inr (3, [.ref q_iB, .int i_c])), (q_iB, .inl (cB, 10000, .inl i_f)), (q_t, .inr (3, [.ref q_tB, .int t_c])), (q_tB, .inl (cB, 10000, .inl t_f))]) (va_runV (As := []) (rest := [.long br_len, .long (Int32.toInt64 x2)]) hF (ct_BlockReader_made (l := l) (D := D) (cB := cB) (cI := cI) (tM := tM) (q_br := q_br) (q_i := q_i) (q_iB := q_iB) (q_t := q_t) (q_tB := q_tB) (br_at := br_at) (br_end := br_end) (br_tb := br_tb) (br_len := br_len) (br_fault := br_fault) (br_fp := br_fp) (i_c := i_c) (i_f := i_f) (t_c := t_c) (t_f := t_f) (r := r8) hm9 _) (cwV 0 hts (tpG_V wd_151 wd_152 wd_153 wd_144 wd_150) rfl rfl rfl ⟨rfl, yd_BlockReader_made⟩ ⟨Nat.le_of_ble_eq_true rfl, Nat.le_of_ble_eq_true rfl⟩) ⟨tp_blind, va_recv hw.1 hw.2.1 (ci := 0) (q0 := 0) rfl rfl, tp_pre hw [0, 1, 2, 3, 4] rfl rfl⟩ rfl rfl hl.1 rfl (lv_room (Nat.le_of_ble_eq_true rfl)) d_BlockReader_readCopy_29 ⟨Nat.le_of_ble_eq_true rfl, Nat.le_of_ble_eq_true rfl⟩) hw [0, 1, 2, 3, 4] [] [0, 1, 2, 3, 4] rfl rfl rfl (by decide) rfl rfl (fun H locs hw => ?_)
  refine lv_i2l (v := (Int32.toInt64 r8)) hx hb d_BlockReader_readCopy_32 rfl ?_
  refine lv_lsub hx hb d_BlockReader_readCopy_33 ?_
  refine W.lcmp hx hb d_BlockReader_readCopy_34 ?_
  refine lv_if_le (tgt := 44) hx hb d_BlockReader_readCopy_35 (by decide +kernel) (fun hc10 => ?_) (fun hc10 => ?_)
  · replace hm := tp_it hc10 hm
    exact w_BlockReader_readCopy_44 hF2  _ _ _ _ _ _ _ _ _ hm hw (lv_sub hl [0, 2, 3] rfl)
  · replace hm := tp_if hc10 hm
    refine lv_aload_n hx hb d_BlockReader_readCopy_38 rfl (lv_at hl 0 rfl) ?_
    refine lv_iconst (v := (5 : Int32)) hx hb d_BlockReader_readCopy_39 (by decide +kernel) ?_
    refine lv_iload_n hx hb d_BlockReader_readCopy_40 rfl (lv_at hl 1 rfl) ?_
    obtain ⟨br_fault_11, br_fp_12, hm13, hm⟩ := tp_b2_e hm
    refine tp_callv (wr := []) (WS' := [(q_br, .inr (0, [.ref q_i, .ref q_t, .int br_at, .int br_end, .int br_tb, .long br_len, .int br_fault_11, .int br_fp_12])), (q_i, .inr (3, [.ref q_iB, .int i_c])), (q_iB, .inl (cB, 10000, .inl i_f)), (q_t, .inr (3, [.ref q_tB, .int t_c])), (q_tB, .inl (cB, 10000, .inl t_f))]) (va_runV (As := [.int (5 : Int32), .int x1]) (rest := []) hF (ct_BlockReader_fail (l := l) (D := D) (cB := cB) (cI := cI) (tM := tM) (q_br := q_br) (q_i := q_i) (q_iB := q_iB) (q_t := q_t) (q_tB := q_tB) (br_at := br_at) (br_end := br_end) (br_tb := br_tb) (br_len := br_len) (br_fault := br_fault) (br_fp := br_fp) (i_c := i_c) (i_f := i_f) (t_c := t_c) (t_f := t_f) (x1 := (5 : Int32)) (x2 := x1) (br_fault' := br_fault_11) (br_fp' := br_fp_12) hm13 _) (cwV 2 hts (tpG_V wd_145 wd_146 wd_147 wd_144 wd_143) rfl rfl rfl ⟨rfl, yd_BlockReader_fail⟩ ⟨Nat.le_of_ble_eq_true rfl, Nat.le_of_ble_eq_true rfl⟩) ⟨tp_blind, va_recv hw.1 hw.2.1 (ci := 0) (q0 := 0) rfl rfl, tp_pre hw [0, 1, 2, 3, 4] rfl rfl⟩ rfl rfl hl.1 rfl (lv_room (Nat.le_of_ble_eq_true rfl)) d_BlockReader_readCopy_41 ⟨Nat.le_of_ble_eq_true rfl, Nat.le_of_ble_eq_true rfl⟩) hw [0, 1, 2, 3, 4] [] [0, 1, 2, 3, 4] rfl rfl rfl (by decide) rfl rfl (fun H locs hw => ?_)
    exact w_BlockReader_readCopy_44 hF2  _ _ _ _ _ _ _ _ _ hm hw (lv_sub hl [0, 2, 3] rfl)
set_option maxHeartbeats 4000000 in
set_option maxRecDepth 100000 in
theorem w_BlockReader_readCopy_16 {q_br q_i q_iB q_t q_tB : Nat} {br_at : Int32} {br_end : Int32} {br_tb : Int32} {br_len : Int64} {i_c : Int32} {i_f : Nat → Int32} {N : Nat} {br_fault' : Int32} {br_fp' : Int32} {t_c' : Int32} {t_f' : Nat → Int32} (hF2 : tp_F p m c c_BlockReader_readCopy 5 s args tpG R_BlockReader meth none) : ∀ (x1 : Int32) (x2 : Int32) (x3 : Int64) (br_fault : Int32) (br_fp : Int32) (t_c : Int32) (t_f : Nat → Int32) (H : Heap) (locs : List Loc) (ls : Array Slot), m_BlockReader_readCopy_16 N br_tb br_len  x1 x2 x3 br_fault br_fp t_c t_f = some (br_fault', br_fp', t_c', t_f') → tp_Wd D (tp_ty cB cI) tM A s H locs [(q_br, .inr (0, [.ref q_i, .ref q_t, .int br_at, .int br_end, .int br_tb, .long br_len, .int br_fault, .int br_fp])), (q_i, .inr (3, [.ref q_iB, .int i_c])), (q_iB, .inl (cB, 10000, .inl i_f)), (q_t, .inr (3, [.ref q_tB, .int t_c])), (q_tB, .inl (cB, 10000, .inl t_f))] → lv_has ls 5 [(0, .ref q_br), (1, .int x1), (2, .int x2), (3, .long x3)] → W p l e rm_BlockReader_readCopy s m args below meth c H locs 0 0 (MQ below (tp_Qv (S := Unit) D A (fun _ => [(q_br, .inr (0, [.ref q_i, .ref q_t, .int br_at, .int br_end, .int br_tb, .long br_len, .int br_fault', .int br_fp'])), (q_i, .inr (3, [.ref q_iB, .int i_c])), (q_iB, .inl (cB, 10000, .inl i_f)), (q_t, .inr (3, [.ref q_tB, .int t_c'])), (q_tB, .inl (cB, 10000, .inl t_f'))])) args s 0 0 A) (F0 m 16 ls []) := by
  obtain ⟨hF, hr, hlocks⟩ := id hF2
  obtain ⟨hx, hb, hml, hown, hts⟩ := id hF
  intro x1 x2 x3 br_fault br_fp t_c t_f H locs ls hm hw hl
  unfold m_BlockReader_readCopy_16 at hm
  refine lv_aload_n hx hb d_BlockReader_readCopy_16 rfl (lv_at hl 0 rfl) ?_
  refine lv_iconst (v := (4 : Int32)) hx hb d_BlockReader_readCopy_17 (by decide +kernel) ?_
  refine lv_iload_n hx hb d_BlockReader_readCopy_18 rfl (lv_at hl 1 rfl) ?_
  obtain ⟨br_fault_5, br_fp_6, hm7, hm⟩ := tp_b2_e hm
  refine tp_callv (wr := []) (WS' := [(q_br, .inr (0, [.ref q_i, .ref q_t, .int br_at, .int br_end, .int br_tb, .long br_len, .int br_fault_5, .int br_fp_6])), (q_i, .inr (3, [.ref q_iB, .int i_c])), (q_iB, .inl (cB, 10000, .inl i_f)), (q_t, .inr (3, [.ref q_tB, .int t_c])), (q_tB, .inl (cB, 10000, .inl t_f))]) (va_runV (As := [.int (4 : Int32), .int x1]) (rest := []) hF (ct_BlockReader_fail (l := l) (D := D) (cB := cB) (cI := cI) (tM := tM) (q_br := q_br) (q_i := q_i) (q_iB := q_iB) (q_t := q_t) (q_tB := q_tB) (br_at := br_at) (br_end := br_end) (br_tb := br_tb) (br_len := br_len) (br_fault := br_fault) (br_fp := br_fp) (i_c := i_c) (i_f := i_f) (t_c := t_c) (t_f := t_f) (x1 := (4 : Int32)) (x2 := x1) (br_fault' := br_fault_5) (br_fp' := br_fp_6) hm7 _) (cwV 2 hts (tpG_V wd_145 wd_146 wd_147 wd_144 wd_143) rfl rfl rfl ⟨rfl, yd_BlockReader_fail⟩ ⟨Nat.le_of_ble_eq_true rfl, Nat.le_of_ble_eq_true rfl⟩) ⟨tp_blind, va_recv hw.1 hw.2.1 (ci := 0) (q0 := 0) rfl rfl, tp_pre hw [0, 1, 2, 3, 4] rfl rfl⟩ rfl rfl hl.1 rfl (lv_room (Nat.le_of_ble_eq_true rfl)) d_BlockReader_readCopy_19 ⟨Nat.le_of_ble_eq_true rfl, Nat.le_of_ble_eq_true rfl⟩) hw [0, 1, 2, 3, 4] [] [0, 1, 2, 3, 4] rfl rfl rfl (by decide) rfl rfl (fun H locs hw => ?_)
  exact w_BlockReader_readCopy_22 hF2  _ _ _ _ _ _ _ _ _ _ hm hw (lv_sub hl [0, 1, 2, 3] rfl)
set_option maxHeartbeats 4000000 in
set_option maxRecDepth 100000 in
theorem ct_BlockReader_readCopy {q_br q_i q_iB q_t q_tB : Nat} {br_at : Int32} {br_end : Int32} {br_tb : Int32} {br_len : Int64} {br_fault : Int32} {br_fp : Int32} {i_c : Int32} {i_f : Nat → Int32} {t_c : Int32} {t_f : Nat → Int32} {N : Nat} {x1 : Int32} {x2 : Int32} {x3 : Int64} {br_fault' : Int32} {br_fp' : Int32} {t_c' : Int32} {t_f' : Nat → Int32} (hm : m_BlockReader_readCopy N x1 x2 x3 br_tb br_len br_fault br_fp t_c t_f = some (br_fault', br_fp', t_c', t_f')) (sz : Nat) : tp_Cv l y_BlockReader_readCopy ws_BlockReader_readCopy rm_BlockReader_readCopy D (tp_ty cB cI) tM [.ref q_br, .int x1, .int x2, .long x3] [(q_br, .inr (0, [.ref q_i, .ref q_t, .int br_at, .int br_end, .int br_tb, .long br_len, .int br_fault, .int br_fp])), (q_i, .inr (3, [.ref q_iB, .int i_c])), (q_iB, .inl (cB, 10000, .inl i_f)), (q_t, .inr (3, [.ref q_tB, .int t_c])), (q_tB, .inl (cB, 10000, .inl t_f))] sz [(q_br, .inr (0, [.ref q_i, .ref q_t, .int br_at, .int br_end, .int br_tb, .long br_len, .int br_fault', .int br_fp'])), (q_i, .inr (3, [.ref q_iB, .int i_c])), (q_iB, .inl (cB, 10000, .inl i_f)), (q_t, .inr (3, [.ref q_tB, .int t_c'])), (q_tB, .inl (cB, 10000, .inl t_f'))] := by
  refine Met.ofW (cc := c_BlockReader_readCopy) (maxL := 5) (ret := none) (by decide) rfl ?_
  intro p e s m args below meth c s₁ B hml hv
  obtain ⟨rfl, hv⟩ := hv
  have hw := tp_entry hv
  generalize va_A [(q_br, .inr (0, [.ref q_i, .ref q_t, .int br_at, .int br_end, .int br_tb, .long br_len, .int br_fault, .int br_fp])), (q_i, .inr (3, [.ref q_iB, .int i_c])), (q_iB, .inl (cB, 10000, .inl i_f)), (q_t, .inr (3, [.ref q_tB, .int t_c])), (q_tB, .inl (cB, 10000, .inl t_f))] sz = A at hw ⊢
  have hx := B.exec
  have hb := B.bytes
  have hr := B.returns
  have hts0 := atoms_spec (ws := ws_BlockReader_readCopy) B.pre
  have hts := fun w h => hts0 w (List.mem_cons_of_mem _ h)
  have hown : s.vm.findClass R_BlockReader = some m.cls := findClass_of_methodNamed B.named
  have hlocks := B.notSynchronized
  have hF : CallFix p m c c_BlockReader_readCopy 5 s _ tpG R_BlockReader := ⟨hx, hb, hml, hown, hts⟩
  have hF2 : tp_F p m c c_BlockReader_readCopy 5 s _ tpG R_BlockReader meth none := ⟨hF, hr, hlocks⟩
  have hl := lv_entry ([.ref q_br, .int x1, .int x2, .long x3]) (n := 5) (Nat.le_of_ble_eq_true rfl)
  rw [lg_entry_eq]
  generalize (lg_sl ([.ref q_br, .int x1, .int x2, .long x3]) ++ List.replicate (5 - (lg_sl ([.ref q_br, .int x1, .int x2, .long x3])).length) Slot.unset).toArray = ls at hl ⊢
  replace hl : lv_has ls 5 [(0, .ref q_br), (1, .int x1), (2, .int x2), (3, .long x3)] := hl
  unfold m_BlockReader_readCopy at hm
  refine lv_lload_n hx hb d_BlockReader_readCopy_0 rfl (lv_at hl 3 rfl) ?_
  refine lv_lconst (v := (0 : Int64)) hx hb d_BlockReader_readCopy_1 (by decide +kernel) ?_
  refine W.lcmp hx hb d_BlockReader_readCopy_2 ?_
  refine lv_if_eq (tgt := 16) hx hb d_BlockReader_readCopy_3 (by decide +kernel) (fun hc1 => ?_) (fun hc1 => ?_)
  · replace hm := tp_it hc1 hm
    exact w_BlockReader_readCopy_16 hF2  _ _ _ _ _ _ _ _ _ _ hm hw (lv_sub hl [0, 1, 2, 3] rfl)
  · replace hm := tp_if hc1 hm
    refine lv_lload_n hx hb d_BlockReader_readCopy_6 rfl (lv_at hl 3 rfl) ?_
    refine lv_aload_n hx hb d_BlockReader_readCopy_7 rfl (lv_at hl 0 rfl) ?_
    obtain ⟨r2, hm3, hm⟩ := tp_b1_e hm
    refine tp_calli (wr := []) (WS' := [(q_br, .inr (0, [.ref q_i, .ref q_t, .int br_at, .int br_end, .int br_tb, .long br_len, .int br_fault, .int br_fp])), (q_i, .inr (3, [.ref q_iB, .int i_c])), (q_iB, .inl (cB, 10000, .inl i_f)), (q_t, .inr (3, [.ref q_tB, .int t_c])), (q_tB, .inl (cB, 10000, .inl t_f))]) (va_runV (As := []) (rest := [.long x3]) hF (ct_BlockReader_made (l := l) (D := D) (cB := cB) (cI := cI) (tM := tM) (q_br := q_br) (q_i := q_i) (q_iB := q_iB) (q_t := q_t) (q_tB := q_tB) (br_at := br_at) (br_end := br_end) (br_tb := br_tb) (br_len := br_len) (br_fault := br_fault) (br_fp := br_fp) (i_c := i_c) (i_f := i_f) (t_c := t_c) (t_f := t_f) (r := r2) hm3 _) (cwV 0 hts (tpG_V wd_151 wd_152 wd_153 wd_144 wd_150) rfl rfl rfl ⟨rfl, yd_BlockReader_made⟩ ⟨Nat.le_of_ble_eq_true rfl, Nat.le_of_ble_eq_true rfl⟩) ⟨tp_blind, va_recv hw.1 hw.2.1 (ci := 0) (q0 := 0) rfl rfl, tp_pre hw [0, 1, 2, 3, 4] rfl rfl⟩ rfl rfl hl.1 rfl (lv_room (Nat.le_of_ble_eq_true rfl)) d_BlockReader_readCopy_8 ⟨Nat.le_of_ble_eq_true rfl, Nat.le_of_ble_eq_true rfl⟩) hw [0, 1, 2, 3, 4] [] [0, 1, 2, 3, 4] rfl rfl rfl (by decide) rfl rfl (fun H locs hw => ?_)
    refine lv_i2l (v := (Int32.toInt64 r2)) hx hb d_BlockReader_readCopy_11 rfl ?_
    refine W.lcmp hx hb d_BlockReader_readCopy_12 ?_
    refine lv_if_le (tgt := 22) hx hb d_BlockReader_readCopy_13 (by decide +kernel) (fun hc4 => ?_) (fun hc4 => ?_)
    · replace hm := tp_it hc4 hm
      exact w_BlockReader_readCopy_22 hF2  _ _ _ _ _ _ _ _ _ _ hm hw (lv_sub hl [0, 1, 2, 3] rfl)
    · replace hm := tp_if hc4 hm
      exact w_BlockReader_readCopy_16 hF2  _ _ _ _ _ _ _ _ _ _ hm hw (lv_sub hl [0, 1, 2, 3] rfl)
end
abbrev rm_BlockReader_readElement : Room := { frames := 3, cells := 0, slots := 0, locals := 68 }
abbrev ws_BlockReader_readElement : List Cond := .code y_BlockReader_readElement c_BlockReader_readElement 4 none :: tpG
noncomputable def m_BlockReader_readElement (N : Nat) (br_at : Int32) (br_end : Int32) (br_tb : Int32) (br_len : Int64) (br_fault : Int32) (br_fp : Int32) (i_c : Int32) (i_f : Nat → Int32) (t_c : Int32) (t_f : Nat → Int32) : Option (Int32 × Int32 × Int32 × Int32 × (Nat → Int32)) :=
  tp_b4 (m_BlockReader_next br_at br_end br_fault br_fp i_c i_f) fun r1 br_at_2 br_fault_3 br_fp_4 =>
  tp_b0 (r1 >>> ((2 : Int32) &&& 31)) fun y6 =>
  if (r1 &&& (3 : Int32)) = (0 : Int32) then
    if (60 : Int32) ≤ y6 then
      tp_b4 (m_BlockReader_nextNumber N (y6 - (59 : Int32)) br_at_2 br_end br_fault_3 br_fp_4 i_c i_f) fun r9 br_at_10 br_fault_11 br_fp_12 =>
      tp_b5 (m_BlockReader_readLiterals N br_at ((1 : Int64) + r9) br_at_10 br_end br_tb br_len br_fault_11 br_fp_12 i_c i_f t_c t_f) fun br_at_14 br_fault_15 br_fp_16 t_c_17 t_f_18 =>
      some (br_at_14, br_fault_15, br_fp_16, t_c_17, t_f_18)
    else
      tp_b5 (m_BlockReader_readLiterals N br_at ((1 : Int64) + (Int32.toInt64 y6)) br_at_2 br_end br_tb br_len br_fault_3 br_fp_4 i_c i_f t_c t_f) fun br_at_20 br_fault_21 br_fp_22 t_c_23 t_f_24 =>
      some (br_at_20, br_fault_21, br_fp_22, t_c_23, t_f_24)
  else
  if (r1 &&& (3 : Int32)) = (1 : Int32) then
    tp_b4 (m_BlockReader_next br_at_2 br_end br_fault_3 br_fp_4 i_c i_f) fun r27 br_at_28 br_fault_29 br_fp_30 =>
    tp_b4 (m_BlockReader_readCopy N br_at ((y6 - y6 / (8 : Int32) * (8 : Int32)) + (4 : Int32)) (Int32.toInt64 (r27 + ((256 : Int32) * (y6 / (8 : Int32))))) br_tb br_len br_fault_29 br_fp_30 t_c t_f) fun br_fault_32 br_fp_33 t_c_34 t_f_35 =>
    some (br_at_28, br_fault_32, br_fp_33, t_c_34, t_f_35)
  else
  if (r1 &&& (3 : Int32)) = (2 : Int32) then
    tp_b4 (m_BlockReader_nextNumber N (2 : Int32) br_at_2 br_end br_fault_3 br_fp_4 i_c i_f) fun r38 br_at_39 br_fault_40 br_fp_41 =>
    tp_b4 (m_BlockReader_readCopy N br_at (y6 + (1 : Int32)) r38 br_tb br_len br_fault_40 br_fp_41 t_c t_f) fun br_fault_43 br_fp_44 t_c_45 t_f_46 =>
    some (br_at_39, br_fault_43, br_fp_44, t_c_45, t_f_46)
  else
  tp_b4 (m_BlockReader_nextNumber N (4 : Int32) br_at_2 br_end br_fault_3 br_fp_4 i_c i_f) fun r48 br_at_49 br_fault_50 br_fp_51 =>
  tp_b4 (m_BlockReader_readCopy N br_at (y6 + (1 : Int32)) r48 br_tb br_len br_fault_50 br_fp_51 t_c t_f) fun br_fault_53 br_fp_54 t_c_55 t_f_56 =>
  some (br_at_49, br_fault_53, br_fp_54, t_c_55, t_f_56)
section
variable {p : Program} {l : Launch} {e : Env} {s : State} {m : MethodId} {args : Array Value} {below : List Frame} {meth : Method} {c : Code} {A : Nat → Prop} {D : va_G} {cB cI : ClassId} {tM : Nat}
set_option maxHeartbeats 4000000 in
set_option maxRecDepth 100000 in
theorem ct_BlockReader_readElement {q_br q_i q_iB q_t q_tB : Nat} {br_at : Int32} {br_end : Int32} {br_tb : Int32} {br_len : Int64} {br_fault : Int32} {br_fp : Int32} {i_c : Int32} {i_f : Nat → Int32} {t_c : Int32} {t_f : Nat → Int32} {N : Nat} {br_at' : Int32} {br_fault' : Int32} {br_fp' : Int32} {t_c' : Int32} {t_f' : Nat → Int32} (hm : m_BlockReader_readElement N br_at br_end br_tb br_len br_fault br_fp i_c i_f t_c t_f = some (br_at', br_fault', br_fp', t_c', t_f')) (sz : Nat) : tp_Cv l y_BlockReader_readElement ws_BlockReader_readElement rm_BlockReader_readElement D (tp_ty cB cI) tM [.ref q_br] [(q_br, .inr (0, [.ref q_i, .ref q_t, .int br_at, .int br_end, .int br_tb, .long br_len, .int br_fault, .int br_fp])), (q_i, .inr (3, [.ref q_iB, .int i_c])), (q_iB, .inl (cB, 10000, .inl i_f)), (q_t, .inr (3, [.ref q_tB, .int t_c])), (q_tB, .inl (cB, 10000, .inl t_f))] sz [(q_br, .inr (0, [.ref q_i, .ref q_t, .int br_at', .int br_end, .int br_tb, .long br_len, .int br_fault', .int br_fp'])), (q_i, .inr (3, [.ref q_iB, .int i_c])), (q_iB, .inl (cB, 10000, .inl i_f)), (q_t, .inr (3, [.ref q_tB, .int t_c'])), (q_tB, .inl (cB, 10000, .inl t_f'))] := by
  refine Met.ofW (cc := c_BlockReader_readElement) (maxL := 4) (ret := none) (by decide) rfl ?_
  intro p e s m args below meth c s₁ B hml hv
  obtain ⟨rfl, hv⟩ := hv
  have hw := tp_entry hv
  generalize va_A [(q_br, .inr (0, [.ref q_i, .ref q_t, .int br_at, .int br_end, .int br_tb, .long br_len, .int br_fault, .int br_fp])), (q_i, .inr (3, [.ref q_iB, .int i_c])), (q_iB, .inl (cB, 10000, .inl i_f)), (q_t, .inr (3, [.ref q_tB, .int t_c])), (q_tB, .inl (cB, 10000, .inl t_f))] sz = A at hw ⊢
  have hx := B.exec
  have hb := B.bytes
  have hr := B.returns
  have hts0 := atoms_spec (ws := ws_BlockReader_readElement) B.pre
  have hts := fun w h => hts0 w (List.mem_cons_of_mem _ h)
  have hown : s.vm.findClass R_BlockReader = some m.cls := findClass_of_methodNamed B.named
  have hlocks := B.notSynchronized
  have hF : CallFix p m c c_BlockReader_readElement 4 s _ tpG R_BlockReader := ⟨hx, hb, hml, hown, hts⟩
  have hF2 : tp_F p m c c_BlockReader_readElement 4 s _ tpG R_BlockReader meth none := ⟨hF, hr, hlocks⟩
  have hl := lv_entry ([.ref q_br]) (n := 4) (Nat.le_of_ble_eq_true rfl)
  rw [lg_entry_eq]
  generalize (lg_sl ([.ref q_br]) ++ List.replicate (4 - (lg_sl ([.ref q_br])).length) Slot.unset).toArray = ls at hl ⊢
  replace hl : lv_has ls 4 [(0, .ref q_br)] := hl
  unfold m_BlockReader_readElement at hm
  refine lv_aload_n hx hb d_BlockReader_readElement_0 rfl (lv_at hl 0 rfl) ?_
  refine tp_get (v := .int br_at) (C := R_BlockReader) (T := T_BlockReader) hx hb hts fw_BlockReader hown hw 0 rfl rfl 2 (by decide +kernel) (hts _ wd_139) rfl d_BlockReader_readElement_1 ?_
  refine lv_istore_n (lv' := [(1, .int br_at), (0, .ref q_br)]) hx hb d_BlockReader_readElement_4 rfl hl (by decide +kernel) rfl (fun ls hl => ?_)
  refine lv_aload_n hx hb d_BlockReader_readElement_5 rfl (lv_at hl 1 rfl) ?_
  obtain ⟨r1, br_at_2, br_fault_3, br_fp_4, hm5, hm⟩ := tp_b4_e hm
  refine tp_calli (wr := []) (WS' := [(q_br, .inr (0, [.ref q_i, .ref q_t, .int br_at_2, .int br_end, .int br_tb, .long br_len, .int br_fault_3, .int br_fp_4])), (q_i, .inr (3, [.ref q_iB, .int i_c])), (q_iB, .inl (cB, 10000, .inl i_f)), (q_t, .inr (3, [.ref q_tB, .int t_c])), (q_tB, .inl (cB, 10000, .inl t_f))]) (va_runV (As := []) (rest := []) hF (ct_BlockReader_next (l := l) (D := D) (cB := cB) (cI := cI) (tM := tM) (q_br := q_br) (q_i := q_i) (q_iB := q_iB) (q_t := q_t) (q_tB := q_tB) (br_at := br_at) (br_end := br_end) (br_tb := br_tb) (br_len := br_len) (br_fault := br_fault) (br_fp := br_fp) (i_c := i_c) (i_f := i_f) (t_c := t_c) (t_f := t_f) (r := r1) (br_at' := br_at_2) (br_fault' := br_fault_3) (br_fp' := br_fp_4) hm5 _) (cwV 0 hts (tpG_V wd_160 wd_161 wd_162 wd_144 wd_159) rfl rfl rfl ⟨rfl, yd_BlockReader_next⟩ ⟨Nat.le_of_ble_eq_true rfl, Nat.le_of_ble_eq_true rfl⟩) ⟨tp_blind, va_recv hw.1 hw.2.1 (ci := 0) (q0 := 0) rfl rfl, tp_pre hw [0, 1, 2, 3, 4] rfl rfl⟩ rfl rfl hl.1 rfl (lv_room (Nat.le_of_ble_eq_true rfl)) d_BlockReader_readElement_6 ⟨Nat.le_of_ble_eq_true rfl, Nat.le_of_ble_eq_true rfl⟩) hw [0, 1, 2, 3, 4] [] [0, 1, 2, 3, 4] rfl rfl rfl (by decide) rfl rfl (fun H locs hw => ?_)
  refine lv_istore_n (lv' := [(2, .int r1), (1, .int br_at), (0, .ref q_br)]) hx hb d_BlockReader_readElement_9 rfl hl (by decide +kernel) rfl (fun ls hl => ?_)
  refine lv_iload_n hx hb d_BlockReader_readElement_10 rfl (lv_at hl 0 rfl) ?_
  refine lv_iconst (v := (2 : Int32)) hx hb d_BlockReader_readElement_11 (by decide +kernel) ?_
  refine lv_ishr hx hb d_BlockReader_readElement_12 ?_
  obtain ⟨y6, ey6, hm⟩ := tp_b0_e hm
  refine tp_topi ey6 ?_
  refine lv_istore_n (lv' := [(3, .int y6), (2, .int r1), (1, .int br_at), (0, .ref q_br)]) hx hb d_BlockReader_readElement_13 rfl hl (by decide +kernel) rfl (fun ls hl => ?_)
  refine lv_iload_n hx hb d_BlockReader_readElement_14 rfl (lv_at hl 1 rfl) ?_
  refine lv_iconst (v := (3 : Int32)) hx hb d_BlockReader_readElement_15 (by decide +kernel) ?_
  refine lv_iand hx hb d_BlockReader_readElement_16 ?_
  by_cases hk7 : (r1 &&& (3 : Int32)) = (0 : Int32)
  · replace hm := tp_it hk7 hm
    refine lv_tableIn (tgt := 44) (off := 27) hx hb d_BlockReader_readElement_17 (by rw [hk7]; decide +kernel) (by rw [hk7]; decide +kernel) (by rw [hk7]; decide +kernel) (by decide +kernel) ?_
    refine lv_aload_n hx hb d_BlockReader_readElement_44 rfl (lv_at hl 3 rfl) ?_
    refine lv_iload_n hx hb d_BlockReader_readElement_45 rfl (lv_at hl 2 rfl) ?_
    refine lv_lconst (v := (1 : Int64)) hx hb d_BlockReader_readElement_46 (by decide +kernel) ?_
    refine lv_iload_n hx hb d_BlockReader_readElement_47 rfl (lv_at hl 0 rfl) ?_
    refine lv_bipush (v := (60 : Int32)) hx hb d_BlockReader_readElement_48 (by decide +kernel) ?_
    refine lv_icmp_ge (tgt := 58) hx hb d_BlockReader_readElement_50 (by decide +kernel) (fun hc8 => ?_) (fun hc8 => ?_)
    · replace hm := tp_it hc8 hm
      refine lv_aload_n hx hb d_BlockReader_readElement_58 rfl (lv_at hl 3 rfl) ?_
      refine lv_iload_n hx hb d_BlockReader_readElement_59 rfl (lv_at hl 0 rfl) ?_
      refine lv_bipush (v := (59 : Int32)) hx hb d_BlockReader_readElement_60 (by decide +kernel) ?_
      refine lv_isub hx hb d_BlockReader_readElement_62 ?_
      obtain ⟨r9, br_at_10, br_fault_11, br_fp_12, hm13, hm⟩ := tp_b4_e hm
      refine tp_calll (wr := []) (WS' := [(q_br, .inr (0, [.ref q_i, .ref q_t, .int br_at_10, .int br_end, .int br_tb, .long br_len, .int br_fault_11, .int br_fp_12])), (q_i, .inr (3, [.ref q_iB, .int i_c])), (q_iB, .inl (cB, 10000, .inl i_f)), (q_t, .inr (3, [.ref q_tB, .int t_c])), (q_tB, .inl (cB, 10000, .inl t_f))]) (va_runV (As := [.int (y6 - (59 : Int32))]) (rest := [.long (1 : Int64), .int br_at, .ref q_br]) hF (ct_BlockReader_nextNumber (l := l) (D := D) (cB := cB) (cI := cI) (tM := tM) (q_br := q_br) (q_i := q_i) (q_iB := q_iB) (q_t := q_t) (q_tB := q_tB) (br_at := br_at_2) (br_end := br_end) (br_tb := br_tb) (br_len := br_len) (br_fault := br_fault_3) (br_fp := br_fp_4) (i_c := i_c) (i_f := i_f) (t_c := t_c) (t_f := t_f) (x1 := (y6 - (59 : Int32))) (N := N) (r := r9) (br_at' := br_at_10) (br_fault' := br_fault_11) (br_fp' := br_fp_12) hm13 _) (cwV 1 hts (tpG_V wd_164 wd_165 wd_166 wd_144 wd_163) rfl rfl rfl ⟨rfl, yd_BlockReader_nextNumber⟩ ⟨Nat.le_of_ble_eq_true rfl, Nat.le_of_ble_eq_true rfl⟩) ⟨tp_blind, va_recv hw.1 hw.2.1 (ci := 0) (q0 := 0) rfl rfl, tp_pre hw [0, 1, 2, 3, 4] rfl rfl⟩ rfl rfl hl.1 rfl (lv_room (Nat.le_of_ble_eq_true rfl)) d_BlockReader_readElement_63 ⟨Nat.le_of_ble_eq_true rfl, Nat.le_of_ble_eq_true rfl⟩) hw [0, 1, 2, 3, 4] [] [0, 1, 2, 3, 4] rfl rfl rfl (by decide) rfl rfl (fun H locs hw => ?_)
      refine lv_ladd hx hb d_BlockReader_readElement_66 ?_
      obtain ⟨br_at_14, br_fault_15, br_fp_16, t_c_17, t_f_18, hm19, hm⟩ := tp_b5_e hm
      refine tp_callv (wr := []) (WS' := [(q_br, .inr (0, [.ref q_i, .ref q_t, .int br_at_14, .int br_end, .int br_tb, .long br_len, .int br_fault_15, .int br_fp_16])), (q_i, .inr (3, [.ref q_iB, .int i_c])), (q_iB, .inl (cB, 10000, .inl i_f)), (q_t, .inr (3, [.ref q_tB, .int t_c_17])), (q_tB, .inl (cB, 10000, .inl t_f_18))]) (va_runV (As := [.int br_at, .long ((1 : Int64) + r9)]) (rest := []) hF (ct_BlockReader_readLiterals (l := l) (D := D) (cB := cB) (cI := cI) (tM := tM) (q_br := q_br) (q_i := q_i) (q_iB := q_iB) (q_t := q_t) (q_tB := q_tB) (br_at := br_at_10) (br_end := br_end) (br_tb := br_tb) (br_len := br_len) (br_fault := br_fault_11) (br_fp := br_fp_12) (i_c := i_c) (i_f := i_f) (t_c := t_c) (t_f := t_f) (x1 := br_at) (x2 := ((1 : Int64) + r9)) (N := N) (br_at' := br_at_14) (br_fault' := br_fault_15) (br_fp' := br_fp_16) (t_c' := t_c_17) (t_f' := t_f_18) hm19 _) (cwV 2 hts (tpG_V wd_168 wd_169 wd_170 wd_144 wd_167) rfl rfl rfl ⟨rfl, yd_BlockReader_readLiterals⟩ ⟨Nat.le_of_ble_eq_true rfl, Nat.le_of_ble_eq_true rfl⟩) ⟨tp_blind, va_recv hw.1 hw.2.1 (ci := 0) (q0 := 0) rfl rfl, tp_pre hw [0, 1, 2, 3, 4] rfl rfl⟩ rfl rfl hl.1 rfl (lv_room (Nat.le_of_ble_eq_true rfl)) d_BlockReader_readElement_67 ⟨Nat.le_of_ble_eq_true rfl, Nat.le_of_ble_eq_true rfl⟩) hw [0, 1, 2, 3, 4] [] [0, 1, 2, 3, 4] rfl rfl rfl (by decide) rfl rfl (fun H locs hw => ?_)
      refine lv_goto (tgt := 130) hx hb d_BlockReader_readElement_70 (by decide +kernel) ?_
      obtain ⟨rfl, rfl, rfl, rfl, rfl⟩ := tp_inj5 hm
      exact tp_vret () hx hb hr hlocks hw d_BlockReader_readElement_130
    · replace hm := tp_if hc8 hm
      refine lv_iload_n hx hb d_BlockReader_readElement_53 rfl (lv_at hl 0 rfl) ?_
      refine lv_i2l (v := (Int32.toInt64 y6)) hx hb d_BlockReader_readElement_54 rfl ?_
      refine lv_goto (tgt := 66) hx hb d_BlockReader_readElement_55 (by decide +kernel) ?_
      refine lv_ladd hx hb d_BlockReader_readElement_66 ?_
      obtain ⟨br_at_20, br_fault_21, br_fp_22, t_c_23, t_f_24, hm25, hm⟩ := tp_b5_e hm
      refine tp_callv (wr := []) (WS' := [(q_br, .inr (0, [.ref q_i, .ref q_t, .int br_at_20, .int br_end, .int br_tb, .long br_len, .int br_fault_21, .int br_fp_22])), (q_i, .inr (3, [.ref q_iB, .int i_c])), (q_iB, .inl (cB, 10000, .inl i_f)), (q_t, .inr (3, [.ref q_tB, .int t_c_23])), (q_tB, .inl (cB, 10000, .inl t_f_24))]) (va_runV (As := [.int br_at, .long ((1 : Int64) + (Int32.toInt64 y6))]) (rest := []) hF (ct_BlockReader_readLiterals (l := l) (D := D) (cB := cB) (cI := cI) (tM := tM) (q_br := q_br) (q_i := q_i) (q_iB := q_iB) (q_t := q_t) (q_tB := q_tB) (br_at := br_at_2) (br_end := br_end) (br_tb := br_tb) (br_len := br_len) (br_fault := br_fault_3) (br_fp := br_fp_4) (i_c := i_c) (i_f := i_f) (t_c := t_c) (t_f := t_f) (x1 := br_at) (x2 := ((1 : Int64) + (Int32.toInt64 y6))) (N := N) (br_at' := br_at_20) (br_fault' := br_fault_21) (br_fp' := br_fp_22) (t_c' := t_c_23) (t_f' := t_f_24) hm25 _) (cwV 2 hts (tpG_V wd_168 wd_169 wd_170 wd_144 wd_167) rfl rfl rfl ⟨rfl, yd_BlockReader_readLiterals⟩ ⟨Nat.le_of_ble_eq_true rfl, Nat.le_of_ble_eq_true rfl⟩) ⟨tp_blind, va_recv hw.1 hw.2.1 (ci := 0) (q0 := 0) rfl rfl, tp_pre hw [0, 1, 2, 3, 4] rfl rfl⟩ rfl rfl hl.1 rfl (lv_room (Nat.le_of_ble_eq_true rfl)) d_BlockReader_readElement_67 ⟨Nat.le_of_ble_eq_true rfl, Nat.le_of_ble_eq_true rfl⟩) hw [0, 1, 2, 3, 4] [] [0, 1, 2, 3, 4] rfl rfl rfl (by decide) rfl rfl (fun H locs hw => ?_)
      refine lv_goto (tgt := 130) hx hb d_BlockReader_readElement_70 (by decide +kernel) ?_
      obtain ⟨rfl, rfl, rfl, rfl, rfl⟩ := tp_inj5 hm
      exact tp_vret () hx hb hr hlocks hw d_BlockReader_readElement_130
  · replace hm := tp_if hk7 hm
    by_cases hk26 : (r1 &&& (3 : Int32)) = (1 : Int32)
    · replace hm := tp_it hk26 hm
      refine lv_tableIn (tgt := 73) (off := 56) hx hb d_BlockReader_readElement_17 (by rw [hk26]; decide +kernel) (by rw [hk26]; decide +kernel) (by rw [hk26]; decide +kernel) (by decide +kernel) ?_
      refine lv_aload_n hx hb d_BlockReader_readElement_73 rfl (lv_at hl 3 rfl) ?_
      refine lv_iload_n hx hb d_BlockReader_readElement_74 rfl (lv_at hl 2 rfl) ?_
      refine lv_iload_n hx hb d_BlockReader_readElement_75 rfl (lv_at hl 0 rfl) ?_
      refine lv_bipush (v := (8 : Int32)) hx hb d_BlockReader_readElement_76 (by decide +kernel) ?_
      refine lv_irem hx hb d_BlockReader_readElement_78 (by decide +kernel) ?_
      refine lv_iconst (v := (4 : Int32)) hx hb d_BlockReader_readElement_79 (by decide +kernel) ?_
      refine lv_iadd hx hb d_BlockReader_readElement_80 ?_
      refine lv_aload_n hx hb d_BlockReader_readElement_81 rfl (lv_at hl 3 rfl) ?_
      obtain ⟨r27, br_at_28, br_fault_29, br_fp_30, hm31, hm⟩ := tp_b4_e hm
      refine tp_calli (wr := []) (WS' := [(q_br, .inr (0, [.ref q_i, .ref q_t, .int br_at_28, .int br_end, .int br_tb, .long br_len, .int br_fault_29, .int br_fp_30])), (q_i, .inr (3, [.ref q_iB, .int i_c])), (q_iB, .inl (cB, 10000, .inl i_f)), (q_t, .inr (3, [.ref q_tB, .int t_c])), (q_tB, .inl (cB, 10000, .inl t_f))]) (va_runV (As := []) (rest := [.int ((y6 - y6 / (8 : Int32) * (8 : Int32)) + (4 : Int32)), .int br_at, .ref q_br]) hF (ct_BlockReader_next (l := l) (D := D) (cB := cB) (cI := cI) (tM := tM) (q_br := q_br) (q_i := q_i) (q_iB := q_iB) (q_t := q_t) (q_tB := q_tB) (br_at := br_at_2) (br_end := br_end) (br_tb := br_tb) (br_len := br_len) (br_fault := br_fault_3) (br_fp := br_fp_4) (i_c := i_c) (i_f := i_f) (t_c := t_c) (t_f := t_f) (r := r27) (br_at' := br_at_28) (br_fault' := br_fault_29) (br_fp' := br_fp_30) hm31 _) (cwV 0 hts (tpG_V wd_160 wd_161 wd_162 wd_144 wd_159) rfl rfl rfl ⟨rfl, yd_BlockReader_next⟩ ⟨Nat.le_of_ble_eq_true rfl, Nat.le_of_ble_eq_true rfl⟩) ⟨tp_blind, va_recv hw.1 hw.2.1 (ci := 0) (q0 := 0) rfl rfl, tp_pre hw [0, 1, 2, 3, 4] rfl rfl⟩ rfl rfl hl.1 rfl (lv_room (Nat.le_of_ble_eq_true rfl)) d_BlockReader_readElement_82 ⟨Nat.le_of_ble_eq_true rfl, Nat.le_of_ble_eq_true rfl⟩) hw [0, 1, 2, 3, 4] [] [0, 1, 2, 3, 4] rfl rfl rfl (by decide) rfl rfl (fun H locs hw => ?_)
      refine lv_sipush (v := (256 : Int32)) hx hb d_BlockReader_readElement_85 (by decide +kernel) ?_
      refine lv_iload_n hx hb d_BlockReader_readElement_88 rfl (lv_at hl 0 rfl) ?_
      refine lv_bipush (v := (8 : Int32)) hx hb d_BlockReader_readElement_89 (by decide +kernel) ?_
      refine lv_idiv hx hb d_BlockReader_readElement_91 (by decide +kernel) ?_
      refine lv_imul hx hb d_BlockReader_readElement_92 ?_
      refine lv_iadd hx hb d_BlockReader_readElement_93 ?_
      refine lv_i2l (v := (Int32.toInt64 (r27 + ((256 : Int32) * (y6 / (8 : Int32)))))) hx hb d_BlockReader_readElement_94 rfl ?_
      obtain ⟨br_fault_32, br_fp_33, t_c_34, t_f_35, hm36, hm⟩ := tp_b4_e hm
      refine tp_callv (wr := []) (WS' := [(q_br, .inr (0, [.ref q_i, .ref q_t, .int br_at_28, .int br_end, .int br_tb, .long br_len, .int br_fault_32, .int br_fp_33])), (q_i, .inr (3, [.ref q_iB, .int i_c])), (q_iB, .inl (cB, 10000, .inl i_f)), (q_t, .inr (3, [.ref q_tB, .int t_c_34])), (q_tB, .inl (cB, 10000, .inl t_f_35))]) (va_runV (As := [.int br_at, .int ((y6 - y6 / (8 : Int32) * (8 : Int32)) + (4 : Int32)), .long (Int32.toInt64 (r27 + ((256 : Int32) * (y6 / (8 : Int32)))))]) (rest := []) hF (ct_BlockReader_readCopy (l := l) (D := D) (cB := cB) (cI := cI) (tM := tM) (q_br := q_br) (q_i := q_i) (q_iB := q_iB) (q_t := q_t) (q_tB := q_tB) (br_at := br_at_28) (br_end := br_end) (br_tb := br_tb) (br_len := br_len) (br_fault := br_fault_29) (br_fp := br_fp_30) (i_c := i_c) (i_f := i_f) (t_c := t_c) (t_f := t_f) (x1 := br_at) (x2 := ((y6 - y6 / (8 : Int32) * (8 : Int32)) + (4 : Int32))) (x3 := (Int32.toInt64 (r27 + ((256 : Int32) * (y6 / (8 : Int32)))))) (N := N) (br_fault' := br_fault_32) (br_fp' := br_fp_33) (t_c' := t_c_34) (t_f' := t_f_35) hm36 _) (cwV 3 hts (tpG_V wd_172 wd_173 wd_174 wd_144 wd_171) rfl rfl rfl ⟨rfl, yd_BlockReader_readCopy⟩ ⟨Nat.le_of_ble_eq_true rfl, Nat.le_of_ble_eq_true rfl⟩) ⟨tp_blind, va_recv hw.1 hw.2.1 (ci := 0) (q0 := 0) rfl rfl, tp_pre hw [0, 1, 2, 3, 4] rfl rfl⟩ rfl rfl hl.1 rfl (lv_room (Nat.le_of_ble_eq_true rfl)) d_BlockReader_readElement_95 ⟨Nat.le_of_ble_eq_true rfl, Nat.le_of_ble_eq_true rfl⟩) hw [0, 1, 2, 3, 4] [] [0, 1, 2, 3, 4] rfl rfl rfl (by decide) rfl rfl (fun H locs hw => ?_)
      refine lv_goto (tgt := 130) hx hb d_BlockReader_readElement_98 (by decide +kernel) ?_
      obtain ⟨rfl, rfl, rfl, rfl, rfl⟩ := tp_inj5 hm
      exact tp_vret () hx hb hr hlocks hw d_BlockReader_readElement_130
    · replace hm := tp_if hk26 hm
      by_cases hk37 : (r1 &&& (3 : Int32)) = (2 : Int32)
      · replace hm := tp_it hk37 hm
        refine lv_tableIn (tgt := 101) (off := 84) hx hb d_BlockReader_readElement_17 (by rw [hk37]; decide +kernel) (by rw [hk37]; decide +kernel) (by rw [hk37]; decide +kernel) (by decide +kernel) ?_
        refine lv_aload_n hx hb d_BlockReader_readElement_101 rfl (lv_at hl 3 rfl) ?_
        refine lv_iload_n hx hb d_BlockReader_readElement_102 rfl (lv_at hl 2 rfl) ?_
        refine lv_iload_n hx hb d_BlockReader_readElement_103 rfl (lv_at hl 0 rfl) ?_
        refine lv_iconst (v := (1 : Int32)) hx hb d_BlockReader_readElement_104 (by decide +kernel) ?_
        refine lv_iadd hx hb d_BlockReader_readElement_105 ?_
        refine lv_aload_n hx hb d_BlockReader_readElement_106 rfl (lv_at hl 3 rfl) ?_
        refine lv_iconst (v := (2 : Int32)) hx hb d_BlockReader_readElement_107 (by decide +kernel) ?_
        obtain ⟨r38, br_at_39, br_fault_40, br_fp_41, hm42, hm⟩ := tp_b4_e hm
        refine tp_calll (wr := []) (WS' := [(q_br, .inr (0, [.ref q_i, .ref q_t, .int br_at_39, .int br_end, .int br_tb, .long br_len, .int br_fault_40, .int br_fp_41])), (q_i, .inr (3, [.ref q_iB, .int i_c])), (q_iB, .inl (cB, 10000, .inl i_f)), (q_t, .inr (3, [.ref q_tB, .int t_c])), (q_tB, .inl (cB, 10000, .inl t_f))]) (va_runV (As := [.int (2 : Int32)]) (rest := [.int (y6 + (1 : Int32)), .int br_at, .ref q_br]) hF (ct_BlockReader_nextNumber (l := l) (D := D) (cB := cB) (cI := cI) (tM := tM) (q_br := q_br) (q_i := q_i) (q_iB := q_iB) (q_t := q_t) (q_tB := q_tB) (br_at := br_at_2) (br_end := br_end) (br_tb := br_tb) (br_len := br_len) (br_fault := br_fault_3) (br_fp := br_fp_4) (i_c := i_c) (i_f := i_f) (t_c := t_c) (t_f := t_f) (x1 := (2 : Int32)) (N := N) (r := r38) (br_at' := br_at_39) (br_fault' := br_fault_40) (br_fp' := br_fp_41) hm42 _) (cwV 1 hts (tpG_V wd_164 wd_165 wd_166 wd_144 wd_163) rfl rfl rfl ⟨rfl, yd_BlockReader_nextNumber⟩ ⟨Nat.le_of_ble_eq_true rfl, Nat.le_of_ble_eq_true rfl⟩) ⟨tp_blind, va_recv hw.1 hw.2.1 (ci := 0) (q0 := 0) rfl rfl, tp_pre hw [0, 1, 2, 3, 4] rfl rfl⟩ rfl rfl hl.1 rfl (lv_room (Nat.le_of_ble_eq_true rfl)) d_BlockReader_readElement_108 ⟨Nat.le_of_ble_eq_true rfl, Nat.le_of_ble_eq_true rfl⟩) hw [0, 1, 2, 3, 4] [] [0, 1, 2, 3, 4] rfl rfl rfl (by decide) rfl rfl (fun H locs hw => ?_)
        obtain ⟨br_fault_43, br_fp_44, t_c_45, t_f_46, hm47, hm⟩ := tp_b4_e hm
        refine tp_callv (wr := []) (WS' := [(q_br, .inr (0, [.ref q_i, .ref q_t, .int br_at_39, .int br_end, .int br_tb, .long br_len, .int br_fault_43, .int br_fp_44])), (q_i, .inr (3, [.ref q_iB, .int i_c])), (q_iB, .inl (cB, 10000, .inl i_f)), (q_t, .inr (3, [.ref q_tB, .int t_c_45])), (q_tB, .inl (cB, 10000, .inl t_f_46))]) (va_runV (As := [.int br_at, .int (y6 + (1 : Int32)), .long r38]) (rest := []) hF (ct_BlockReader_readCopy (l := l) (D := D) (cB := cB) (cI := cI) (tM := tM) (q_br := q_br) (q_i := q_i) (q_iB := q_iB) (q_t := q_t) (q_tB := q_tB) (br_at := br_at_39) (br_end := br_end) (br_tb := br_tb) (br_len := br_len) (br_fault := br_fault_40) (br_fp := br_fp_41) (i_c := i_c) (i_f := i_f) (t_c := t_c) (t_f := t_f) (x1 := br_at) (x2 := (y6 + (1 : Int32))) (x3 := r38) (N := N) (br_fault' := br_fault_43) (br_fp' := br_fp_44) (t_c' := t_c_45) (t_f' := t_f_46) hm47 _) (cwV 3 hts (tpG_V wd_172 wd_173 wd_174 wd_144 wd_171) rfl rfl rfl ⟨rfl, yd_BlockReader_readCopy⟩ ⟨Nat.le_of_ble_eq_true rfl, Nat.le_of_ble_eq_true rfl⟩) ⟨tp_blind, va_recv hw.1 hw.2.1 (ci := 0) (q0 := 0) rfl rfl, tp_pre hw [0, 1, 2, 3, 4] rfl rfl⟩ rfl rfl hl.1 rfl (lv_room (Nat.le_of_ble_eq_true rfl)) d_BlockReader_readElement_111 ⟨Nat.le_of_ble_eq_true rfl, Nat.le_of_ble_eq_true rfl⟩) hw [0, 1, 2, 3, 4] [] [0, 1, 2, 3, 4] rfl rfl rfl (by decide) rfl rfl (fun H locs hw => ?_)
        refine lv_goto (tgt := 130) hx hb d_BlockReader_readElement_114 (by decide +kernel) ?_
        obtain ⟨rfl, rfl, rfl, rfl, rfl⟩ := tp_inj5 hm
        exact tp_vret () hx hb hr hlocks hw d_BlockReader_readElement_130
      · replace hm := tp_if hk37 hm
        refine lv_tableOut (tgt := 117) hx hb d_BlockReader_readElement_17 (by have nhk7 := lv_neT (a := 0) hk7 (by decide +kernel); have nhk26 := lv_neT (a := 1) hk26 (by decide +kernel); have nhk37 := lv_neT (a := 2) hk37 (by decide +kernel); omega) (by decide +kernel) ?_
        refine lv_aload_n hx hb d_BlockReader_readElement_117 rfl (lv_at hl 3 rfl) ?_
        refine lv_iload_n hx hb d_BlockReader_readElement_118 rfl (lv_at hl 2 rfl) ?_
        refine lv_iload_n hx hb d_BlockReader_readElement_119 rfl (lv_at hl 0 rfl) ?_
        refine lv_iconst (v := (1 : Int32)) hx hb d_BlockReader_readElement_120 (by decide +kernel) ?_
        refine lv_iadd hx hb d_BlockReader_readElement_121 ?_
        refine lv_aload_n hx hb d_BlockReader_readElement_122 rfl (lv_at hl 3 rfl) ?_
        refine lv_iconst (v := (4 : Int32)) hx hb d_BlockReader_readElement_123 (by decide +kernel) ?_
        obtain ⟨r48, br_at_49, br_fault_50, br_fp_51, hm52, hm⟩ := tp_b4_e hm
        refine tp_calll (wr := []) (WS' := [(q_br, .inr (0, [.ref q_i, .ref q_t, .int br_at_49, .int br_end, .int br_tb, .long br_len, .int br_fault_50, .int br_fp_51])), (q_i, .inr (3, [.ref q_iB, .int i_c])), (q_iB, .inl (cB, 10000, .inl i_f)), (q_t, .inr (3, [.ref q_tB, .int t_c])), (q_tB, .inl (cB, 10000, .inl t_f))]) (va_runV (As := [.int (4 : Int32)]) (rest := [.int (y6 + (1 : Int32)), .int br_at, .ref q_br]) hF (ct_BlockReader_nextNumber (l := l) (D := D) (cB := cB) (cI := cI) (tM := tM) (q_br := q_br) (q_i := q_i) (q_iB := q_iB) (q_t := q_t) (q_tB := q_tB) (br_at := br_at_2) (br_end := br_end) (br_tb := br_tb) (br_len := br_len) (br_fault := br_fault_3) (br_fp := br_fp_4) (i_c := i_c) (i_f := i_f) (t_c := t_c) (t_f := t_f) (x1 := (4 : Int32)) (N := N) (r := r48) (br_at' := br_at_49) (br_fault' := br_fault_50) (br_fp' := br_fp_51) hm52 _) (cwV 1 hts (tpG_V wd_164 wd_165 wd_166 wd_144 wd_163) rfl rfl rfl ⟨rfl, yd_BlockReader_nextNumber⟩ ⟨Nat.le_of_ble_eq_true rfl, Nat.le_of_ble_eq_true rfl⟩) ⟨tp_blind, va_recv hw.1 hw.2.1 (ci := 0) (q0 := 0) rfl rfl, tp_pre hw [0, 1, 2, 3, 4] rfl rfl⟩ rfl rfl hl.1 rfl (lv_room (Nat.le_of_ble_eq_true rfl)) d_BlockReader_readElement_124 ⟨Nat.le_of_ble_eq_true rfl, Nat.le_of_ble_eq_true rfl⟩) hw [0, 1, 2, 3, 4] [] [0, 1, 2, 3, 4] rfl rfl rfl (by decide) rfl rfl (fun H locs hw => ?_)
        obtain ⟨br_fault_53, br_fp_54, t_c_55, t_f_56, hm57, hm⟩ := tp_b4_e hm
        refine tp_callv (wr := []) (WS' := [(q_br, .inr (0, [.ref q_i, .ref q_t, .int br_at_49, .int br_end, .int br_tb, .long br_len, .int br_fault_53, .int br_fp_54])), (q_i, .inr (3, [.ref q_iB, .int i_c])), (q_iB, .inl (cB, 10000, .inl i_f)), (q_t, .inr (3, [.ref q_tB, .int t_c_55])), (q_tB, .inl (cB, 10000, .inl t_f_56))]) (va_runV (As := [.int br_at, .int (y6 + (1 : Int32)), .long r48]) (rest := []) hF (ct_BlockReader_readCopy (l := l) (D := D) (cB := cB) (cI := cI) (tM := tM) (q_br := q_br) (q_i := q_i) (q_iB := q_iB) (q_t := q_t) (q_tB := q_tB) (br_at := br_at_49) (br_end := br_end) (br_tb := br_tb) (br_len := br_len) (br_fault := br_fault_50) (br_fp := br_fp_51) (i_c := i_c) (i_f := i_f) (t_c := t_c) (t_f := t_f) (x1 := br_at) (x2 := (y6 + (1 : Int32))) (x3 := r48) (N := N) (br_fault' := br_fault_53) (br_fp' := br_fp_54) (t_c' := t_c_55) (t_f' := t_f_56) hm57 _) (cwV 3 hts (tpG_V wd_172 wd_173 wd_174 wd_144 wd_171) rfl rfl rfl ⟨rfl, yd_BlockReader_readCopy⟩ ⟨Nat.le_of_ble_eq_true rfl, Nat.le_of_ble_eq_true rfl⟩) ⟨tp_blind, va_recv hw.1 hw.2.1 (ci := 0) (q0 := 0) rfl rfl, tp_pre hw [0, 1, 2, 3, 4] rfl rfl⟩ rfl rfl hl.1 rfl (lv_room (Nat.le_of_ble_eq_true rfl)) d_BlockReader_readElement_127 ⟨Nat.le_of_ble_eq_true rfl, Nat.le_of_ble_eq_true rfl⟩) hw [0, 1, 2, 3, 4] [] [0, 1, 2, 3, 4] rfl rfl rfl (by decide) rfl rfl (fun H locs hw => ?_)
        obtain ⟨rfl, rfl, rfl, rfl, rfl⟩ := tp_inj5 hm
        exact tp_vret () hx hb hr hlocks hw d_BlockReader_readElement_130
end
abbrev rm_BlockReader_readLength : Room := { frames := 2, cells := 0, slots := 0, locals := 42 }
abbrev ws_BlockReader_readLength : List Cond := .code y_BlockReader_readLength c_BlockReader_readLength 5 none :: tpG
noncomputable def m_BlockReader_readLength_85 (N : Nat) (br_end : Int32) (i_c : Int32) (i_f : Nat → Int32) (x1 : Int32) (x2 : Int32) (br_at : Int32) (br_len : Int64) (br_fault : Int32) (br_fp : Int32) : Option (Int32 × Int64 × Int32 × Int32) :=
  if (lg_cmp br_len (Int32.toInt64 x1)) ≤ 0 then
    some (br_at, br_len, br_fault, br_fp)
  else
    tp_b2 (m_BlockReader_fail (3 : Int32) x2 br_fault br_fp) fun br_fault_16 br_fp_17 =>
    some (br_at, br_len, br_fault_16, br_fp_17)
noncomputable def m_BlockReader_readLength_17 (N : Nat) (br_end : Int32) (i_c : Int32) (i_f : Nat → Int32) (rec17 : Int32 → Int32 → Int32 → Int32 → Int32 → Int64 → Int32 → Int32 → Option (Int32 × Int64 × Int32 × Int32)) (x1 : Int32) (x2 : Int32) (x3 : Int32) (x4 : Int32) (br_at : Int32) (br_len : Int64) (br_fault : Int32) (br_fp : Int32) : Option (Int32 × Int64 × Int32 × Int32) :=
  if (5 : Int32) ≤ x4 then
    m_BlockReader_readLength_85 N br_end i_c i_f  x1 x2 br_at br_len br_fault br_fp
  else
    if x3 ≤ (127 : Int32) then
      m_BlockReader_readLength_85 N br_end i_c i_f  x1 x2 br_at br_len br_fault br_fp
    else
      if br_fault = 0 then
        tp_b4 (m_BlockReader_next br_at br_end br_fault br_fp i_c i_f) fun r4 br_at_5 br_fault_6 br_fp_7 =>
        tp_b0 (br_len ||| ((Int32.toInt64 (r4 &&& (127 : Int32))) <<< (Int32.toInt64 ((7 : Int32) * x4) &&& 63))) fun y9 =>
        if x4 = (4 : Int32) then
          if r4 ≤ (15 : Int32) then
            rec17 x1 x2 r4 (x4 + (1 : Int32)) br_at_5 y9 br_fault_6 br_fp_7
          else
            tp_b2 (m_BlockReader_fail (2 : Int32) x2 br_fault_6 br_fp_7) fun br_fault_12 br_fp_13 =>
            rec17 x1 x2 r4 (x4 + (1 : Int32)) br_at_5 y9 br_fault_12 br_fp_13
        else
          rec17 x1 x2 r4 (x4 + (1 : Int32)) br_at_5 y9 br_fault_6 br_fp_7
      else
        m_BlockReader_readLength_85 N br_end i_c i_f  x1 x2 br_at br_len br_fault br_fp
noncomputable def m_BlockReader_readLength (N : Nat) (x1 : Int32) (br_at : Int32) (br_end : Int32) (br_len : Int64) (br_fault : Int32) (br_fp : Int32) (i_c : Int32) (i_f : Nat → Int32) : Option (Int32 × Int64 × Int32 × Int32) :=
  tp_it8 (m_BlockReader_readLength_17 N br_end i_c i_f ) N x1 br_at (128 : Int32) (0 : Int32) br_at (0 : Int64) br_fault br_fp
section
variable {p : Program} {l : Launch} {e : Env} {s : State} {m : MethodId} {args : Array Value} {below : List Frame} {meth : Method} {c : Code} {A : Nat → Prop} {D : va_G} {cB cI : ClassId} {tM : Nat}
set_option maxHeartbeats 4000000 in
set_option maxRecDepth 100000 in
theorem w_BlockReader_readLength_85 {q_br q_i q_iB q_t q_tB : Nat} {br_end : Int32} {br_tb : Int32} {i_c : Int32} {i_f : Nat → Int32} {t_c : Int32} {t_f : Nat → Int32} {N : Nat} {br_at' : Int32} {br_len' : Int64} {br_fault' : Int32} {br_fp' : Int32} (hF2 : tp_F p m c c_BlockReader_readLength 5 s args tpG R_BlockReader meth none) : ∀ (x1 : Int32) (x2 : Int32) (br_at : Int32) (br_len : Int64) (br_fault : Int32) (br_fp : Int32) (H : Heap) (locs : List Loc) (ls : Array Slot), m_BlockReader_readLength_85 N br_end i_c i_f  x1 x2 br_at br_len br_fault br_fp = some (br_at', br_len', br_fault', br_fp') → tp_Wd D (tp_ty cB cI) tM A s H locs [(q_br, .inr (0, [.ref q_i, .ref q_t, .int br_at, .int br_end, .int br_tb, .long br_len, .int br_fault, .int br_fp])), (q_i, .inr (3, [.ref q_iB, .int i_c])), (q_iB, .inl (cB, 10000, .inl i_f)), (q_t, .inr (3, [.ref q_tB, .int t_c])), (q_tB, .inl (cB, 10000, .inl t_f))] → lv_has ls 5 [(0, .ref q_br), (1, .int x1), (2, .int x2)] → W p l e rm_BlockReader_readLength s m args below meth c H locs 0 0 (MQ below (tp_Qv (S := Unit) D A (fun _ => [(q_br, .inr (0, [.ref q_i, .ref q_t, .int br_at', .int br_end, .int br_tb, .long br_len', .int br_fault', .int br_fp'])), (q_i, .inr (3, [.ref q_iB, .int i_c])), (q_iB, .inl (cB, 10000, .inl i_f)), (q_t, .inr (3, [.ref q_tB, .int t_c])), (q_tB, .inl (cB, 10000, .inl t_f))])) args s 0 0 A) (F0 m 85 ls []) := by
  obtain ⟨hF, hr, hlocks⟩ := id hF2
  obtain ⟨hx, hb, hml, hown, hts⟩ := id hF
  intro x1 x2 br_at br_len br_fault br_fp H locs ls hm hw hl
  unfold m_BlockReader_readLength_85 at hm
  refine lv_aload_n hx hb d_BlockReader_readLength_85 rfl (lv_at hl 0 rfl) ?_
  refine tp_get (v := .long br_len) (C := R_BlockReader) (T := T_BlockReader) hx hb hts fw_BlockReader hown hw 0 rfl rfl 5 (by decide +kernel) (hts _ wd_149) rfl d_BlockReader_readLength_86 ?_
  refine lv_iload_n hx hb d_BlockReader_readLength_89 rfl (lv_at hl 1 rfl) ?_
  refine lv_i2l (v := (Int32.toInt64 x1)) hx hb d_BlockReader_readLength_90 rfl ?_
  refine W.lcmp hx hb d_BlockReader_readLength_91 ?_
  refine lv_if_le (tgt := 101) hx hb d_BlockReader_readLength_92 (by decide +kernel) (fun hc15 => ?_) (fun hc15 => ?_)
  · replace hm := tp_it hc15 hm
    obtain ⟨rfl, rfl, rfl, rfl⟩ := tp_inj4 hm
    exact tp_vret () hx hb hr hlocks hw d_BlockReader_readLength_101
  · replace hm := tp_if hc15 hm
    refine lv_aload_n hx hb d_BlockReader_readLength_95 rfl (lv_at hl 0 rfl) ?_
    refine lv_iconst (v := (3 : Int32)) hx hb d_BlockReader_readLength_96 (by decide +kernel) ?_
    refine lv_iload_n hx hb d_BlockReader_readLength_97 rfl (lv_at hl 2 rfl) ?_
    obtain ⟨br_fault_16, br_fp_17, hm18, hm⟩ := tp_b2_e hm
    refine tp_callv (wr := []) (WS' := [(q_br, .inr (0, [.ref q_i, .ref q_t, .int br_at, .int br_end, .int br_tb, .long br_len, .int br_fault_16, .int br_fp_17])), (q_i, .inr (3, [.ref q_iB, .int i_c])), (q_iB, .inl (cB, 10000, .inl i_f)), (q_t, .inr (3, [.ref q_tB, .int t_c])), (q_tB, .inl (cB, 10000, .inl t_f))]) (va_runV (As := [.int (3 : Int32), .int x2]) (rest := []) hF (ct_BlockReader_fail (l := l) (D := D) (cB := cB) (cI := cI) (tM := tM) (q_br := q_br) (q_i := q_i) (q_iB := q_iB) (q_t := q_t) (q_tB := q_tB) (br_at := br_at) (br_end := br_end) (br_tb := br_tb) (br_len := br_len) (br_fault := br_fault) (br_fp := br_fp) (i_c := i_c) (i_f := i_f) (t_c := t_c) (t_f := t_f) (x1 := (3 : Int32)) (x2 := x2) (br_fault' := br_fault_16) (br_fp' := br_fp_17) hm18 _) (cwV 2 hts (tpG_V wd_145 wd_146 wd_147 wd_144 wd_143) rfl rfl rfl ⟨rfl, yd_BlockReader_fail⟩ ⟨Nat.le_of_ble_eq_true rfl, Nat.le_of_ble_eq_true rfl⟩) ⟨tp_blind, va_recv hw.1 hw.2.1 (ci := 0) (q0 := 0) rfl rfl, tp_pre hw [0, 1, 2, 3, 4] rfl rfl⟩ rfl rfl hl.1 rfl (lv_room (Nat.le_of_ble_eq_true rfl)) d_BlockReader_readLength_98 ⟨Nat.le_of_ble_eq_true rfl, Nat.le_of_ble_eq_true rfl⟩) hw [0, 1, 2, 3, 4] [] [0, 1, 2, 3, 4] rfl rfl rfl (by decide) rfl rfl (fun H locs hw => ?_)
    obtain ⟨rfl, rfl, rfl, rfl⟩ := tp_inj4 hm
    exact tp_vret () hx hb hr hlocks hw d_BlockReader_readLength_101
set_option maxHeartbeats 4000000 in
set_option maxRecDepth 100000 in
theorem w_BlockReader_readLength_17 {q_br q_i q_iB q_t q_tB : Nat} {br_end : Int32} {br_tb : Int32} {i_c : Int32} {i_f : Nat → Int32} {t_c : Int32} {t_f : Nat → Int32} {N : Nat} {br_at' : Int32} {br_len' : Int64} {br_fault' : Int32} {br_fp' : Int32} (hF2 : tp_F p m c c_BlockReader_readLength 5 s args tpG R_BlockReader meth none) : ∀ (n : Nat), ∀ (x1 : Int32) (x2 : Int32) (x3 : Int32) (x4 : Int32) (br_at : Int32) (br_len : Int64) (br_fault : Int32) (br_fp : Int32) (H : Heap) (locs : List Loc) (ls : Array Slot), tp_it8 (m_BlockReader_readLength_17 N br_end i_c i_f ) n x1 x2 x3 x4 br_at br_len br_fault br_fp = some (br_at', br_len', br_fault', br_fp') → tp_Wd D (tp_ty cB cI) tM A s H locs [(q_br, .inr (0, [.ref q_i, .ref q_t, .int br_at, .int br_end, .int br_tb, .long br_len, .int br_fault, .int br_fp])), (q_i, .inr (3, [.ref q_iB, .int i_c])), (q_iB, .inl (cB, 10000, .inl i_f)), (q_t, .inr (3, [.ref q_tB, .int t_c])), (q_tB, .inl (cB, 10000, .inl t_f))] → lv_has ls 5 [(0, .ref q_br), (1, .int x1), (2, .int x2), (3, .int x3), (4, .int x4)] → W p l e rm_BlockReader_readLength s m args below meth c H locs 0 0 (MQ below (tp_Qv (S := Unit) D A (fun _ => [(q_br, .inr (0, [.ref q_i, .ref q_t, .int br_at', .int br_end, .int br_tb, .long br_len', .int br_fault', .int br_fp'])), (q_i, .inr (3, [.ref q_iB, .int i_c])), (q_iB, .inl (cB, 10000, .inl i_f)), (q_t, .inr (3, [.ref q_tB, .int t_c])), (q_tB, .inl (cB, 10000, .inl t_f))])) args s 0 0 A) (F0 m 17 ls []) := by
  obtain ⟨hF, hr, hlocks⟩ := id hF2
  obtain ⟨hx, hb, hml, hown, hts⟩ := id hF
  intro n
  induction n with
  | zero => intro x1 x2 x3 x4 br_at br_len br_fault br_fp H locs ls hm; exact absurd hm (by simp [tp_it8])
  | succ n ih17 =>
    intro x1 x2 x3 x4 br_at br_len br_fault br_fp H locs ls hm hw hl
    replace hm : m_BlockReader_readLength_17 N br_end i_c i_f  (tp_it8 (m_BlockReader_readLength_17 N br_end i_c i_f ) n) x1 x2 x3 x4 br_at br_len br_fault br_fp = some (br_at', br_len', br_fault', br_fp') := hm
    unfold m_BlockReader_readLength_17 at hm
    refine lv_iload hx hb d_BlockReader_readLength_17 (lv_at hl 4 rfl) ?_
    refine lv_iconst (v := (5 : Int32)) hx hb d_BlockReader_readLength_19 (by decide +kernel) ?_
    refine lv_icmp_ge (tgt := 85) hx hb d_BlockReader_readLength_20 (by decide +kernel) (fun hc1 => ?_) (fun hc1 => ?_)
    · replace hm := tp_it hc1 hm
      exact w_BlockReader_readLength_85 hF2  _ _ _ _ _ _ _ _ _ hm hw (lv_sub hl [0, 1, 2] rfl)
    · replace hm := tp_if hc1 hm
      refine lv_iload_n hx hb d_BlockReader_readLength_23 rfl (lv_at hl 3 rfl) ?_
      refine lv_bipush (v := (127 : Int32)) hx hb d_BlockReader_readLength_24 (by decide +kernel) ?_
      refine lv_icmp_le (tgt := 85) hx hb d_BlockReader_readLength_26 (by decide +kernel) (fun hc2 => ?_) (fun hc2 => ?_)
      · replace hm := tp_it hc2 hm
        exact w_BlockReader_readLength_85 hF2  _ _ _ _ _ _ _ _ _ hm hw (lv_sub hl [0, 1, 2] rfl)
      · replace hm := tp_if hc2 hm
        refine lv_aload_n hx hb d_BlockReader_readLength_29 rfl (lv_at hl 0 rfl) ?_
        refine tp_get (v := .int br_fault) (C := R_BlockReader) (T := T_BlockReader) hx hb hts fw_BlockReader hown hw 0 rfl rfl 6 (by decide +kernel) (hts _ wd_137) rfl d_BlockReader_readLength_30 ?_
        refine lv_if_ne (tgt := 85) hx hb d_BlockReader_readLength_33 (by decide +kernel) (fun hc3 => ?_) (fun hc3 => ?_)
        · replace hm := tp_if hc3 hm
          exact w_BlockReader_readLength_85 hF2  _ _ _ _ _ _ _ _ _ hm hw (lv_sub hl [0, 1, 2] rfl)
        · replace hm := tp_it hc3 hm
          refine lv_aload_n hx hb d_BlockReader_readLength_36 rfl (lv_at hl 0 rfl) ?_
          obtain ⟨r4, br_at_5, br_fault_6, br_fp_7, hm8, hm⟩ := tp_b4_e hm
          refine tp_calli (wr := []) (WS' := [(q_br, .inr (0, [.ref q_i, .ref q_t, .int br_at_5, .int br_end, .int br_tb, .long br_len, .int br_fault_6, .int br_fp_7])), (q_i, .inr (3, [.ref q_iB, .int i_c])), (q_iB, .inl (cB, 10000, .inl i_f)), (q_t, .inr (3, [.ref q_tB, .int t_c])), (q_tB, .inl (cB, 10000, .inl t_f))]) (va_runV (As := []) (rest := []) hF (ct_BlockReader_next (l := l) (D := D) (cB := cB) (cI := cI) (tM := tM) (q_br := q_br) (q_i := q_i) (q_iB := q_iB) (q_t := q_t) (q_tB := q_tB) (br_at := br_at) (br_end := br_end) (br_tb := br_tb) (br_len := br_len) (br_fault := br_fault) (br_fp := br_fp) (i_c := i_c) (i_f := i_f) (t_c := t_c) (t_f := t_f) (r := r4) (br_at' := br_at_5) (br_fault' := br_fault_6) (br_fp' := br_fp_7) hm8 _) (cwV 0 hts (tpG_V wd_160 wd_161 wd_162 wd_144 wd_159) rfl rfl rfl ⟨rfl, yd_BlockReader_next⟩ ⟨Nat.le_of_ble_eq_true rfl, Nat.le_of_ble_eq_true rfl⟩) ⟨tp_blind, va_recv hw.1 hw.2.1 (ci := 0) (q0 := 0) rfl rfl, tp_pre hw [0, 1, 2, 3, 4] rfl rfl⟩ rfl rfl hl.1 rfl (lv_room (Nat.le_of_ble_eq_true rfl)) d_BlockReader_readLength_37 ⟨Nat.le_of_ble_eq_true rfl, Nat.le_of_ble_eq_true rfl⟩) hw [0, 1, 2, 3, 4] [] [0, 1, 2, 3, 4] rfl rfl rfl (by decide) rfl rfl (fun H locs hw => ?_)
          refine lv_istore_n (lv' := [(3, .int r4), (0, .ref q_br), (1, .int x1), (2, .int x2), (4, .int x4)]) hx hb d_BlockReader_readLength_40 rfl hl (by decide +kernel) rfl (fun ls hl => ?_)
          refine lv_aload_n hx hb d_BlockReader_readLength_41 rfl (lv_at hl 1 rfl) ?_
          refine lv_dup hx hb d_BlockReader_readLength_42 rfl ?_
          refine tp_get (v := .long br_len) (C := R_BlockReader) (T := T_BlockReader) hx hb hts fw_BlockReader hown hw 0 rfl rfl 5 (by decide +kernel) (hts _ wd_149) rfl d_BlockReader_readLength_43 ?_
          refine lv_iload_n hx hb d_BlockReader_readLength_46 rfl (lv_at hl 0 rfl) ?_
          refine lv_bipush (v := (127 : Int32)) hx hb d_BlockReader_readLength_47 (by decide +kernel) ?_
          refine lv_iand hx hb d_BlockReader_readLength_49 ?_
          refine lv_i2l (v := (Int32.toInt64 (r4 &&& (127 : Int32)))) hx hb d_BlockReader_readLength_50 rfl ?_
          refine lv_bipush (v := (7 : Int32)) hx hb d_BlockReader_readLength_51 (by decide +kernel) ?_
          refine lv_iload hx hb d_BlockReader_readLength_53 (lv_at hl 4 rfl) ?_
          refine lv_imul hx hb d_BlockReader_readLength_55 ?_
          refine lv_lshl (v := ((Int32.toInt64 (r4 &&& (127 : Int32))) <<< (Int32.toInt64 ((7 : Int32) * x4) &&& 63))) hx hb d_BlockReader_readLength_56 rfl ?_
          refine lv_lor hx hb d_BlockReader_readLength_57 ?_
          obtain ⟨y9, ey9, hm⟩ := tp_b0_e hm
          refine tp_topl ey9 ?_
          refine tp_put (v := .long y9) (C := R_BlockReader) (T := T_BlockReader) (WS' := [(q_br, .inr (0, [.ref q_i, .ref q_t, .int br_at_5, .int br_end, .int br_tb, .long y9, .int br_fault_6, .int br_fp_7])), (q_i, .inr (3, [.ref q_iB, .int i_c])), (q_iB, .inl (cB, 10000, .inl i_f)), (q_t, .inr (3, [.ref q_tB, .int t_c])), (q_tB, .inl (cB, 10000, .inl t_f))]) hx hb hts fw_BlockReader ty_BlockReader ty_BlockReader_ok nm_BlockReader hown hw 0 rfl rfl 5 (by decide +kernel) (hts _ wd_149) rfl rfl rfl (Nat.le_of_ble_eq_true rfl) rfl d_BlockReader_readLength_58 (fun H locs hw => ?_)
          refine lv_iload hx hb d_BlockReader_readLength_61 (lv_at hl 4 rfl) ?_
          refine lv_iconst (v := (4 : Int32)) hx hb d_BlockReader_readLength_63 (by decide +kernel) ?_
          refine lv_icmp_ne (tgt := 79) hx hb d_BlockReader_readLength_64 (by decide +kernel) (fun hc10 => ?_) (fun hc10 => ?_)
          · replace hm := tp_if hc10 hm
            refine lv_iinc (v := (x4 + (1 : Int32))) (lv' := [(4, .int (x4 + (1 : Int32))), (3, .int r4), (0, .ref q_br), (1, .int x1), (2, .int x2)]) hx hb d_BlockReader_readLength_79 hl (k := 4) rfl rfl (by decide +kernel) rfl (fun ls hl => ?_)
            refine lv_goto (tgt := 17) hx hb d_BlockReader_readLength_82 (by decide +kernel) ?_
            exact ih17 _ _ _ _ _ _ _ _ _ _ _ hm hw (lv_sub hl [2, 3, 4, 1, 0] rfl)
          · replace hm := tp_it hc10 hm
            refine lv_iload_n hx hb d_BlockReader_readLength_67 rfl (lv_at hl 0 rfl) ?_
            refine lv_bipush (v := (15 : Int32)) hx hb d_BlockReader_readLength_68 (by decide +kernel) ?_
            refine lv_icmp_le (tgt := 79) hx hb d_BlockReader_readLength_70 (by decide +kernel) (fun hc11 => ?_) (fun hc11 => ?_)
            · replace hm := tp_it hc11 hm
              refine lv_iinc (v := (x4 + (1 : Int32))) (lv' := [(4, .int (x4 + (1 : Int32))), (3, .int r4), (0, .ref q_br), (1, .int x1), (2, .int x2)]) hx hb d_BlockReader_readLength_79 hl (k := 4) rfl rfl (by decide +kernel) rfl (fun ls hl => ?_)
              refine lv_goto (tgt := 17) hx hb d_BlockReader_readLength_82 (by decide +kernel) ?_
              exact ih17 _ _ _ _ _ _ _ _ _ _ _ hm hw (lv_sub hl [2, 3, 4, 1, 0] rfl)
            · replace hm := tp_if hc11 hm
              refine lv_aload_n hx hb d_BlockReader_readLength_73 rfl (lv_at hl 1 rfl) ?_
              refine lv_iconst (v := (2 : Int32)) hx hb d_BlockReader_readLength_74 (by decide +kernel) ?_
              refine lv_iload_n hx hb d_BlockReader_readLength_75 rfl (lv_at hl 3 rfl) ?_
              obtain ⟨br_fault_12, br_fp_13, hm14, hm⟩ := tp_b2_e hm
              refine tp_callv (wr := []) (WS' := [(q_br, .inr (0, [.ref q_i, .ref q_t, .int br_at_5, .int br_end, .int br_tb, .long y9, .int br_fault_12, .int br_fp_13])), (q_i, .inr (3, [.ref q_iB, .int i_c])), (q_iB, .inl (cB, 10000, .inl i_f)), (q_t, .inr (3, [.ref q_tB, .int t_c])), (q_tB, .inl (cB, 10000, .inl t_f))]) (va_runV (As := [.int (2 : Int32), .int x2]) (rest := []) hF (ct_BlockReader_fail (l := l) (D := D) (cB := cB) (cI := cI) (tM := tM) (q_br := q_br) (q_i := q_i) (q_iB := q_iB) (q_t := q_t) (q_tB := q_tB) (br_at := br_at_5) (br_end := br_end) (br_tb := br_tb) (br_len := y9) (br_fault := br_fault_6) (br_fp := br_fp_7) (i_c := i_c) (i_f := i_f) (t_c := t_c) (t_f := t_f) (x1 := (2 : Int32)) (x2 := x2) (br_fault' := br_fault_12) (br_fp' := br_fp_13) hm14 _) (cwV 2 hts (tpG_V wd_145 wd_146 wd_147 wd_144 wd_143) rfl rfl rfl ⟨rfl, yd_BlockReader_fail⟩ ⟨Nat.le_of_ble_eq_true rfl, Nat.le_of_ble_eq_true rfl⟩) ⟨tp_blind, va_recv hw.1 hw.2.1 (ci := 0) (q0 := 0) rfl rfl, tp_pre hw [0, 1, 2, 3, 4] rfl rfl⟩ rfl rfl hl.1 rfl (lv_room (Nat.le_of_ble_eq_true rfl)) d_BlockReader_readLength_76 ⟨Nat.le_of_ble_eq_true rfl, Nat.le_of_ble_eq_true rfl⟩) hw [0, 1, 2, 3, 4] [] [0, 1, 2, 3, 4] rfl rfl rfl (by decide) rfl rfl (fun H locs hw => ?_)
              refine lv_iinc (v := (x4 + (1 : Int32))) (lv' := [(4, .int (x4 + (1 : Int32))), (3, .int r4), (0, .ref q_br), (1, .int x1), (2, .int x2)]) hx hb d_BlockReader_readLength_79 hl (k := 4) rfl rfl (by decide +kernel) rfl (fun ls hl => ?_)
              refine lv_goto (tgt := 17) hx hb d_BlockReader_readLength_82 (by decide +kernel) ?_
              exact ih17 _ _ _ _ _ _ _ _ _ _ _ hm hw (lv_sub hl [2, 3, 4, 1, 0] rfl)
set_option maxHeartbeats 4000000 in
set_option maxRecDepth 100000 in
theorem ct_BlockReader_readLength {q_br q_i q_iB q_t q_tB : Nat} {br_at : Int32} {br_end : Int32} {br_tb : Int32} {br_len : Int64} {br_fault : Int32} {br_fp : Int32} {i_c : Int32} {i_f : Nat → Int32} {t_c : Int32} {t_f : Nat → Int32} {N : Nat} {x1 : Int32} {br_at' : Int32} {br_len' : Int64} {br_fault' : Int32} {br_fp' : Int32} (hm : m_BlockReader_readLength N x1 br_at br_end br_len br_fault br_fp i_c i_f = some (br_at', br_len', br_fault', br_fp')) (sz : Nat) : tp_Cv l y_BlockReader_readLength ws_BlockReader_readLength rm_BlockReader_readLength D (tp_ty cB cI) tM [.ref q_br, .int x1] [(q_br, .inr (0, [.ref q_i, .ref q_t, .int br_at, .int br_end, .int br_tb, .long br_len, .int br_fault, .int br_fp])), (q_i, .inr (3, [.ref q_iB, .int i_c])), (q_iB, .inl (cB, 10000, .inl i_f)), (q_t, .inr (3, [.ref q_tB, .int t_c])), (q_tB, .inl (cB, 10000, .inl t_f))] sz [(q_br, .inr (0, [.ref q_i, .ref q_t, .int br_at', .int br_end, .int br_tb, .long br_len', .int br_fault', .int br_fp'])), (q_i, .inr (3, [.ref q_iB, .int i_c])), (q_iB, .inl (cB, 10000, .inl i_f)), (q_t, .inr (3, [.ref q_tB, .int t_c])), (q_tB, .inl (cB, 10000, .inl t_f))] := by
  refine Met.ofW (cc := c_BlockReader_readLength) (maxL := 5) (ret := none) (by decide) rfl ?_
  intro p e s m args below meth c s₁ B hml hv
  obtain ⟨rfl, hv⟩ := hv
  have hw := tp_entry hv
  generalize va_A [(q_br, .inr (0, [.ref q_i, .ref q_t, .int br_at, .int br_end, .int br_tb, .long br_len, .int br_fault, .int br_fp])), (q_i, .inr (3, [.ref q_iB, .int i_c])), (q_iB, .inl (cB, 10000, .inl i_f)), (q_t, .inr (3, [.ref q_tB, .int t_c])), (q_tB, .inl (cB, 10000, .inl t_f))] sz = A at hw ⊢
  have hx := B.exec
  have hb := B.bytes
  have hr := B.returns
  have hts0 := atoms_spec (ws := ws_BlockReader_readLength) B.pre
  have hts := fun w h => hts0 w (List.mem_cons_of_mem _ h)
  have hown : s.vm.findClass R_BlockReader = some m.cls := findClass_of_methodNamed B.named
  have hlocks := B.notSynchronized
  have hF : CallFix p m c c_BlockReader_readLength 5 s _ tpG R_BlockReader := ⟨hx, hb, hml, hown, hts⟩
  have hF2 : tp_F p m c c_BlockReader_readLength 5 s _ tpG R_BlockReader meth none := ⟨hF, hr, hlocks⟩
  have hl := lv_entry ([.ref q_br, .int x1]) (n := 5) (Nat.le_of_ble_eq_true rfl)
  rw [lg_entry_eq]
  generalize (lg_sl ([.ref q_br, .int x1]) ++ List.replicate (5 - (lg_sl ([.ref q_br, .int x1])).length) Slot.unset).toArray = ls at hl ⊢
  replace hl : lv_has ls 5 [(0, .ref q_br), (1, .int x1)] := hl
  unfold m_BlockReader_readLength at hm
  refine lv_aload_n hx hb d_BlockReader_readLength_0 rfl (lv_at hl 0 rfl) ?_
  refine tp_get (v := .int br_at) (C := R_BlockReader) (T := T_BlockReader) hx hb hts fw_BlockReader hown hw 0 rfl rfl 2 (by decide +kernel) (hts _ wd_139) rfl d_BlockReader_readLength_1 ?_
  refine lv_istore_n (lv' := [(2, .int br_at), (0, .ref q_br), (1, .int x1)]) hx hb d_BlockReader_readLength_4 rfl hl (by decide +kernel) rfl (fun ls hl => ?_)
  refine lv_sipush (v := (128 : Int32)) hx hb d_BlockReader_readLength_5 (by decide +kernel) ?_
  refine lv_istore_n (lv' := [(3, .int (128 : Int32)), (2, .int br_at), (0, .ref q_br), (1, .int x1)]) hx hb d_BlockReader_readLength_8 rfl hl (by decide +kernel) rfl (fun ls hl => ?_)
  refine lv_aload_n hx hb d_BlockReader_readLength_9 rfl (lv_at hl 2 rfl) ?_
  refine lv_lconst (v := (0 : Int64)) hx hb d_BlockReader_readLength_10 (by decide +kernel) ?_
  refine tp_put (v := .long (0 : Int64)) (C := R_BlockReader) (T := T_BlockReader) (WS' := [(q_br, .inr (0, [.ref q_i, .ref q_t, .int br_at, .int br_end, .int br_tb, .long (0 : Int64), .int br_fault, .int br_fp])), (q_i, .inr (3, [.ref q_iB, .int i_c])), (q_iB, .inl (cB, 10000, .inl i_f)), (q_t, .inr (3, [.ref q_tB, .int t_c])), (q_tB, .inl (cB, 10000, .inl t_f))]) hx hb hts fw_BlockReader ty_BlockReader ty_BlockReader_ok nm_BlockReader hown hw 0 rfl rfl 5 (by decide +kernel) (hts _ wd_149) rfl rfl rfl (Nat.le_of_ble_eq_true rfl) rfl d_BlockReader_readLength_11 (fun H locs hw => ?_)
  refine lv_iconst (v := (0 : Int32)) hx hb d_BlockReader_readLength_14 (by decide +kernel) ?_
  refine lv_istore (lv' := [(4, .int (0 : Int32)), (3, .int (128 : Int32)), (2, .int br_at), (0, .ref q_br), (1, .int x1)]) hx hb d_BlockReader_readLength_15 hl (by decide +kernel) rfl (fun ls hl => ?_)
  exact w_BlockReader_readLength_17 hF2  N _ _ _ _ _ _ _ _ _ _ _ hm hw (lv_sub hl [3, 4, 2, 1, 0] rfl)
end
abbrev rm_BlockReader_readBlock : Room := { frames := 4, cells := 0, slots := 0, locals := 91 }
abbrev ws_BlockReader_readBlock : List Cond := .code y_BlockReader_readBlock c_BlockReader_readBlock 5 none :: tpG
noncomputable def m_BlockReader_readBlock_70 (N : Nat) (i_c : Int32) (i_f : Nat → Int32) (br_at : Int32) (br_end : Int32) (br_tb : Int32) (br_len : Int64) (br_fault : Int32) (br_fp : Int32) (t_c : Int32) (t_f : Nat → Int32) : Option (Int32 × Int32 × Int32 × Int64 × Int32 × Int32 × Int32 × (Nat → Int32)) :=
  if br_fault = 0 then
    tp_b1 (m_BlockReader_made br_tb t_c) fun r16 =>
    if 0 ≤ (lg_cmp (Int32.toInt64 r16) br_len) then
      some (br_at, br_end, br_tb, br_len, br_fault, br_fp, t_c, t_f)
    else
      tp_b2 (m_BlockReader_fail (6 : Int32) br_end br_fault br_fp) fun br_fault_19 br_fp_20 =>
      some (br_at, br_end, br_tb, br_len, br_fault_19, br_fp_20, t_c, t_f)
  else
    some (br_at, br_end, br_tb, br_len, br_fault, br_fp, t_c, t_f)
noncomputable def m_BlockReader_readBlock_34 (N : Nat) (i_c : Int32) (i_f : Nat → Int32) (rec34 : Int32 → Int32 → Int32 → Int32 → Int64 → Int32 → Int32 → Int32 → (Nat → Int32) → Option (Int32 × Int32 × Int32 × Int64 × Int32 × Int32 × Int32 × (Nat → Int32))) (x4 : Int32) (br_at : Int32) (br_end : Int32) (br_tb : Int32) (br_len : Int64) (br_fault : Int32) (br_fp : Int32) (t_c : Int32) (t_f : Nat → Int32) : Option (Int32 × Int32 × Int32 × Int64 × Int32 × Int32 × Int32 × (Nat → Int32)) :=
  if (10000 : Int32) ≤ x4 then
    m_BlockReader_readBlock_70 N i_c i_f  br_at br_end br_tb br_len br_fault br_fp t_c t_f
  else
    if br_fault = 0 then
      if br_end ≤ br_at then
        m_BlockReader_readBlock_70 N i_c i_f  br_at br_end br_tb br_len br_fault br_fp t_c t_f
      else
        tp_b5 (m_BlockReader_readElement N br_at br_end br_tb br_len br_fault br_fp i_c i_f t_c t_f) fun br_at_9 br_fault_10 br_fp_11 t_c_12 t_f_13 =>
        rec34 (x4 + (1 : Int32)) br_at_9 br_end br_tb br_len br_fault_10 br_fp_11 t_c_12 t_f_13
    else
      m_BlockReader_readBlock_70 N i_c i_f  br_at br_end br_tb br_len br_fault br_fp t_c t_f
noncomputable def m_BlockReader_readBlock (N : Nat) (x1 : Int32) (x2 : Int32) (x3 : Int32) (br_at : Int32) (br_end : Int32) (br_tb : Int32) (br_len : Int64) (br_fault : Int32) (br_fp : Int32) (i_c : Int32) (i_f : Nat → Int32) (t_c : Int32) (t_f : Nat → Int32) : Option (Int32 × Int32 × Int32 × Int64 × Int32 × Int32 × Int32 × (Nat → Int32)) :=
  tp_b4 (m_BlockReader_readLength N x3 x1 x2 br_len (0 : Int32) br_fp i_c i_f) fun br_at_1 br_len_2 br_fault_3 br_fp_4 =>
  tp_it9 (m_BlockReader_readBlock_34 N i_c i_f ) N (0 : Int32) br_at_1 x2 t_c br_len_2 br_fault_3 br_fp_4 t_c t_f
section
variable {p : Program} {l : Launch} {e : Env} {s : State} {m : MethodId} {args : Array Value} {below : List Frame} {meth : Method} {c : Code} {A : Nat → Prop} {D : va_G} {cB cI : ClassId} {tM : Nat}
set_option maxHeartbeats 4000000 in
set_option maxRecDepth 100000 in
theorem w_BlockReader_readBlock_70 {q_br q_i q_iB q_t q_tB : Nat} {i_c : Int32} {i_f : Nat → Int32} {N : Nat} {br_at' : Int32} {br_end' : Int32} {br_tb' : Int32} {br_len' : Int64} {br_fault' : Int32} {br_fp' : Int32} {t_c' : Int32} {t_f' : Nat → Int32} (hF2 : tp_F p m c c_BlockReader_readBlock 5 s args tpG R_BlockReader meth none) : ∀ (br_at : Int32) (br_end : Int32) (br_tb : Int32) (br_len : Int64) (br_fault : Int32) (br_fp : Int32) (t_c : Int32) (t_f : Nat → Int32) (H : Heap) (locs : List Loc) (ls : Array Slot), m_BlockReader_readBlock_70 N i_c i_f  br_at br_end br_tb br_len br_fault br_fp t_c t_f = some (br_at', br_end', br_tb', br_len', br_fault', br_fp', t_c', t_f') → tp_Wd D (tp_ty cB cI) tM A s H locs [(q_br, .inr (0, [.ref q_i, .ref q_t, .int br_at, .int br_end, .int br_tb, .long br_len, .int br_fault, .int br_fp])), (q_i, .inr (3, [.ref q_iB, .int i_c])), (q_iB, .inl (cB, 10000, .inl i_f)), (q_t, .inr (3, [.ref q_tB, .int t_c])), (q_tB, .inl (cB, 10000, .inl t_f))] → lv_has ls 5 [(0, .ref q_br)] → W p l e rm_BlockReader_readBlock s m args below meth c H locs 0 0 (MQ below (tp_Qv (S := Unit) D A (fun _ => [(q_br, .inr (0, [.ref q_i, .ref q_t, .int br_at', .int br_end', .int br_tb', .long br_len', .int br_fault', .int br_fp'])), (q_i, .inr (3, [.ref q_iB, .int i_c])), (q_iB, .inl (cB, 10000, .inl i_f)), (q_t, .inr (3, [.ref q_tB, .int t_c'])), (q_tB, .inl (cB, 10000, .inl t_f'))])) args s 0 0 A) (F0 m 70 ls []) := by
  obtain ⟨hF, hr, hlocks⟩ := id hF2
  obtain ⟨hx, hb, hml, hown, hts⟩ := id hF
  intro br_at br_end br_tb br_len br_fault br_fp t_c t_f H locs ls hm hw hl
  unfold m_BlockReader_readBlock_70 at hm
  refine lv_aload_n hx hb d_BlockReader_readBlock_70 rfl (lv_at hl 0 rfl) ?_
  refine tp_get (v := .int br_fault) (C := R_BlockReader) (T := T_BlockReader) hx hb hts fw_BlockReader hown hw 0 rfl rfl 6 (by decide +kernel) (hts _ wd_137) rfl d_BlockReader_readBlock_71 ?_
  refine lv_if_ne (tgt := 100) hx hb d_BlockReader_readBlock_74 (by decide +kernel) (fun hc15 => ?_) (fun hc15 => ?_)
  · replace hm := tp_if hc15 hm
    obtain ⟨rfl, rfl, rfl, rfl, rfl, rfl, rfl, rfl⟩ := tp_inj8 hm
    exact tp_vret () hx hb hr hlocks hw d_BlockReader_readBlock_100
  · replace hm := tp_it hc15 hm
    refine lv_aload_n hx hb d_BlockReader_readBlock_77 rfl (lv_at hl 0 rfl) ?_
    obtain ⟨r16, hm17, hm⟩ := tp_b1_e hm
    refine tp_calli (wr := []) (WS' := [(q_br, .inr (0, [.ref q_i, .ref q_t, .int br_at, .int br_end, .int br_tb, .long br_len, .int br_fault, .int br_fp])), (q_i, .inr (3, [.ref q_iB, .int i_c])), (q_iB, .inl (cB, 10000, .inl i_f)), (q_t, .inr (3, [.ref q_tB, .int t_c])), (q_tB, .inl (cB, 10000, .inl t_f))]) (va_runV (As := []) (rest := []) hF (ct_BlockReader_made (l := l) (D := D) (cB := cB) (cI := cI) (tM := tM) (q_br := q_br) (q_i := q_i) (q_iB := q_iB) (q_t := q_t) (q_tB := q_tB) (br_at := br_at) (br_end := br_end) (br_tb := br_tb) (br_len := br_len) (br_fault := br_fault) (br_fp := br_fp) (i_c := i_c) (i_f := i_f) (t_c := t_c) (t_f := t_f) (r := r16) hm17 _) (cwV 0 hts (tpG_V wd_151 wd_152 wd_153 wd_144 wd_150) rfl rfl rfl ⟨rfl, yd_BlockReader_made⟩ ⟨Nat.le_of_ble_eq_true rfl, Nat.le_of_ble_eq_true rfl⟩) ⟨tp_blind, va_recv hw.1 hw.2.1 (ci := 0) (q0 := 0) rfl rfl, tp_pre hw [0, 1, 2, 3, 4] rfl rfl⟩ rfl rfl hl.1 rfl (lv_room (Nat.le_of_ble_eq_true rfl)) d_BlockReader_readBlock_78 ⟨Nat.le_of_ble_eq_true rfl, Nat.le_of_ble_eq_true rfl⟩) hw [0, 1, 2, 3, 4] [] [0, 1, 2, 3, 4] rfl rfl rfl (by decide) rfl rfl (fun H locs hw => ?_)
    refine lv_i2l (v := (Int32.toInt64 r16)) hx hb d_BlockReader_readBlock_81 rfl ?_
    refine lv_aload_n hx hb d_BlockReader_readBlock_82 rfl (lv_at hl 0 rfl) ?_
    refine tp_get (v := .long br_len) (C := R_BlockReader) (T := T_BlockReader) hx hb hts fw_BlockReader hown hw 0 rfl rfl 5 (by decide +kernel) (hts _ wd_149) rfl d_BlockReader_readBlock_83 ?_
    refine W.lcmp hx hb d_BlockReader_readBlock_86 ?_
    refine lv_if_ge (tgt := 100) hx hb d_BlockReader_readBlock_87 (by decide +kernel) (fun hc18 => ?_) (fun hc18 => ?_)
    · replace hm := tp_it hc18 hm
      obtain ⟨rfl, rfl, rfl, rfl, rfl, rfl, rfl, rfl⟩ := tp_inj8 hm
      exact tp_vret () hx hb hr hlocks hw d_BlockReader_readBlock_100
    · replace hm := tp_if hc18 hm
      refine lv_aload_n hx hb d_BlockReader_readBlock_90 rfl (lv_at hl 0 rfl) ?_
      refine lv_bipush (v := (6 : Int32)) hx hb d_BlockReader_readBlock_91 (by decide +kernel) ?_
      refine lv_aload_n hx hb d_BlockReader_readBlock_93 rfl (lv_at hl 0 rfl) ?_
      refine tp_get (v := .int br_end) (C := R_BlockReader) (T := T_BlockReader) hx hb hts fw_BlockReader hown hw 0 rfl rfl 3 (by decide +kernel) (hts _ wd_140) rfl d_BlockReader_readBlock_94 ?_
      obtain ⟨br_fault_19, br_fp_20, hm21, hm⟩ := tp_b2_e hm
      refine tp_callv (wr := []) (WS' := [(q_br, .inr (0, [.ref q_i, .ref q_t, .int br_at, .int br_end, .int br_tb, .long br_len, .int br_fault_19, .int br_fp_20])), (q_i, .inr (3, [.ref q_iB, .int i_c])), (q_iB, .inl (cB, 10000, .inl i_f)), (q_t, .inr (3, [.ref q_tB, .int t_c])), (q_tB, .inl (cB, 10000, .inl t_f))]) (va_runV (As := [.int (6 : Int32), .int br_end]) (rest := []) hF (ct_BlockReader_fail (l := l) (D := D) (cB := cB) (cI := cI) (tM := tM) (q_br := q_br) (q_i := q_i) (q_iB := q_iB) (q_t := q_t) (q_tB := q_tB) (br_at := br_at) (br_end := br_end) (br_tb := br_tb) (br_len := br_len) (br_fault := br_fault) (br_fp := br_fp) (i_c := i_c) (i_f := i_f) (t_c := t_c) (t_f := t_f) (x1 := (6 : Int32)) (x2 := br_end) (br_fault' := br_fault_19) (br_fp' := br_fp_20) hm21 _) (cwV 2 hts (tpG_V wd_145 wd_146 wd_147 wd_144 wd_143) rfl rfl rfl ⟨rfl, yd_BlockReader_fail⟩ ⟨Nat.le_of_ble_eq_true rfl, Nat.le_of_ble_eq_true rfl⟩) ⟨tp_blind, va_recv hw.1 hw.2.1 (ci := 0) (q0 := 0) rfl rfl, tp_pre hw [0, 1, 2, 3, 4] rfl rfl⟩ rfl rfl hl.1 rfl (lv_room (Nat.le_of_ble_eq_true rfl)) d_BlockReader_readBlock_97 ⟨Nat.le_of_ble_eq_true rfl, Nat.le_of_ble_eq_true rfl⟩) hw [0, 1, 2, 3, 4] [] [0, 1, 2, 3, 4] rfl rfl rfl (by decide) rfl rfl (fun H locs hw => ?_)
      obtain ⟨rfl, rfl, rfl, rfl, rfl, rfl, rfl, rfl⟩ := tp_inj8 hm
      exact tp_vret () hx hb hr hlocks hw d_BlockReader_readBlock_100
set_option maxHeartbeats 4000000 in
set_option maxRecDepth 100000 in
theorem w_BlockReader_readBlock_34 {q_br q_i q_iB q_t q_tB : Nat} {i_c : Int32} {i_f : Nat → Int32} {N : Nat} {br_at' : Int32} {br_end' : Int32} {br_tb' : Int32} {br_len' : Int64} {br_fault' : Int32} {br_fp' : Int32} {t_c' : Int32} {t_f' : Nat → Int32} (hF2 : tp_F p m c c_BlockReader_readBlock 5 s args tpG R_BlockReader meth none) : ∀ (n : Nat), ∀ (x4 : Int32) (br_at : Int32) (br_end : Int32) (br_tb : Int32) (br_len : Int64) (br_fault : Int32) (br_fp : Int32) (t_c : Int32) (t_f : Nat → Int32) (H : Heap) (locs : List Loc) (ls : Array Slot), tp_it9 (m_BlockReader_readBlock_34 N i_c i_f ) n x4 br_at br_end br_tb br_len br_fault br_fp t_c t_f = some (br_at', br_end', br_tb', br_len', br_fault', br_fp', t_c', t_f') → tp_Wd D (tp_ty cB cI) tM A s H locs [(q_br, .inr (0, [.ref q_i, .ref q_t, .int br_at, .int br_end, .int br_tb, .long br_len, .int br_fault, .int br_fp])), (q_i, .inr (3, [.ref q_iB, .int i_c])), (q_iB, .inl (cB, 10000, .inl i_f)), (q_t, .inr (3, [.ref q_tB, .int t_c])), (q_tB, .inl (cB, 10000, .inl t_f))] → lv_has ls 5 [(0, .ref q_br), (4, .int x4)] → W p l e rm_BlockReader_readBlock s m args below meth c H locs 0 0 (MQ below (tp_Qv (S := Unit) D A (fun _ => [(q_br, .inr (0, [.ref q_i, .ref q_t, .int br_at', .int br_end', .int br_tb', .long br_len', .int br_fault', .int br_fp'])), (q_i, .inr (3, [.ref q_iB, .int i_c])), (q_iB, .inl (cB, 10000, .inl i_f)), (q_t, .inr (3, [.ref q_tB, .int t_c'])), (q_tB, .inl (cB, 10000, .inl t_f'))])) args s 0 0 A) (F0 m 34 ls []) := by
  obtain ⟨hF, hr, hlocks⟩ := id hF2
  obtain ⟨hx, hb, hml, hown, hts⟩ := id hF
  intro n
  induction n with
  | zero => intro x4 br_at br_end br_tb br_len br_fault br_fp t_c t_f H locs ls hm; exact absurd hm (by simp [tp_it9])
  | succ n ih34 =>
    intro x4 br_at br_end br_tb br_len br_fault br_fp t_c t_f H locs ls hm hw hl
    replace hm : m_BlockReader_readBlock_34 N i_c i_f  (tp_it9 (m_BlockReader_readBlock_34 N i_c i_f ) n) x4 br_at br_end br_tb br_len br_fault br_fp t_c t_f = some (br_at', br_end', br_tb', br_len', br_fault', br_fp', t_c', t_f') := hm
    unfold m_BlockReader_readBlock_34 at hm
    refine lv_iload hx hb d_BlockReader_readBlock_34 (lv_at hl 1 rfl) ?_
    refine lv_sipush (v := (10000 : Int32)) hx hb d_BlockReader_readBlock_36 (by decide +kernel) ?_
    refine lv_icmp_ge (tgt := 70) hx hb d_BlockReader_readBlock_39 (by decide +kernel) (fun hc6 => ?_) (fun hc6 => ?_)
    · replace hm := tp_it hc6 hm
      exact w_BlockReader_readBlock_70 hF2  _ _ _ _ _ _ _ _ _ _ _ hm hw (lv_sub hl [0] rfl)
    · replace hm := tp_if hc6 hm
      refine lv_aload_n hx hb d_BlockReader_readBlock_42 rfl (lv_at hl 0 rfl) ?_
      refine tp_get (v := .int br_fault) (C := R_BlockReader) (T := T_BlockReader) hx hb hts fw_BlockReader hown hw 0 rfl rfl 6 (by decide +kernel) (hts _ wd_137) rfl d_BlockReader_readBlock_43 ?_
      refine lv_if_ne (tgt := 70) hx hb d_BlockReader_readBlock_46 (by decide +kernel) (fun hc7 => ?_) (fun hc7 => ?_)
      · replace hm := tp_if hc7 hm
        exact w_BlockReader_readBlock_70 hF2  _ _ _ _ _ _ _ _ _ _ _ hm hw (lv_sub hl [0] rfl)
      · replace hm := tp_it hc7 hm
        refine lv_aload_n hx hb d_BlockReader_readBlock_49 rfl (lv_at hl 0 rfl) ?_
        refine tp_get (v := .int br_at) (C := R_BlockReader) (T := T_BlockReader) hx hb hts fw_BlockReader hown hw 0 rfl rfl 2 (by decide +kernel) (hts _ wd_139) rfl d_BlockReader_readBlock_50 ?_
        refine lv_aload_n hx hb d_BlockReader_readBlock_53 rfl (lv_at hl 0 rfl) ?_
        refine tp_get (v := .int br_end) (C := R_BlockReader) (T := T_BlockReader) hx hb hts fw_BlockReader hown hw 0 rfl rfl 3 (by decide +kernel) (hts _ wd_140) rfl d_BlockReader_readBlock_54 ?_
        refine lv_icmp_ge (tgt := 70) hx hb d_BlockReader_readBlock_57 (by decide +kernel) (fun hc8 => ?_) (fun hc8 => ?_)
        · replace hm := tp_it hc8 hm
          exact w_BlockReader_readBlock_70 hF2  _ _ _ _ _ _ _ _ _ _ _ hm hw (lv_sub hl [0] rfl)
        · replace hm := tp_if hc8 hm
          refine lv_aload_n hx hb d_BlockReader_readBlock_60 rfl (lv_at hl 0 rfl) ?_
          obtain ⟨br_at_9, br_fault_10, br_fp_11, t_c_12, t_f_13, hm14, hm⟩ := tp_b5_e hm
          refine tp_callv (wr := []) (WS' := [(q_br, .inr (0, [.ref q_i, .ref q_t, .int br_at_9, .int br_end, .int br_tb, .long br_len, .int br_fault_10, .int br_fp_11])), (q_i, .inr (3, [.ref q_iB, .int i_c])), (q_iB, .inl (cB, 10000, .inl i_f)), (q_t, .inr (3, [.ref q_tB, .int t_c_12])), (q_tB, .inl (cB, 10000, .inl t_f_13))]) (va_runV (As := []) (rest := []) hF (ct_BlockReader_readElement (l := l) (D := D) (cB := cB) (cI := cI) (tM := tM) (q_br := q_br) (q_i := q_i) (q_iB := q_iB) (q_t := q_t) (q_tB := q_tB) (br_at := br_at) (br_end := br_end) (br_tb := br_tb) (br_len := br_len) (br_fault := br_fault) (br_fp := br_fp) (i_c := i_c) (i_f := i_f) (t_c := t_c) (t_f := t_f) (N := N) (br_at' := br_at_9) (br_fault' := br_fault_10) (br_fp' := br_fp_11) (t_c' := t_c_12) (t_f' := t_f_13) hm14 _) (cwV 0 hts (tpG_V wd_180 wd_181 wd_182 wd_144 wd_179) rfl rfl rfl ⟨rfl, yd_BlockReader_readElement⟩ ⟨Nat.le_of_ble_eq_true rfl, Nat.le_of_ble_eq_true rfl⟩) ⟨tp_blind, va_recv hw.1 hw.2.1 (ci := 0) (q0 := 0) rfl rfl, tp_pre hw [0, 1, 2, 3, 4] rfl rfl⟩ rfl rfl hl.1 rfl (lv_room (Nat.le_of_ble_eq_true rfl)) d_BlockReader_readBlock_61 ⟨Nat.le_of_ble_eq_true rfl, Nat.le_of_ble_eq_true rfl⟩) hw [0, 1, 2, 3, 4] [] [0, 1, 2, 3, 4] rfl rfl rfl (by decide) rfl rfl (fun H locs hw => ?_)
          refine lv_iinc (v := (x4 + (1 : Int32))) (lv' := [(4, .int (x4 + (1 : Int32))), (0, .ref q_br)]) hx hb d_BlockReader_readBlock_64 hl (k := 1) rfl rfl (by decide +kernel) rfl (fun ls hl => ?_)
          refine lv_goto (tgt := 34) hx hb d_BlockReader_readBlock_67 (by decide +kernel) ?_
          exact ih34 _ _ _ _ _ _ _ _ _ _ _ _ hm hw (lv_sub hl [1, 0] rfl)
set_option maxHeartbeats 4000000 in
set_option maxRecDepth 100000 in
theorem ct_BlockReader_readBlock {q_br q_i q_iB q_t q_tB : Nat} {br_at : Int32} {br_end : Int32} {br_tb : Int32} {br_len : Int64} {br_fault : Int32} {br_fp : Int32} {i_c : Int32} {i_f : Nat → Int32} {t_c : Int32} {t_f : Nat → Int32} {N : Nat} {x1 : Int32} {x2 : Int32} {x3 : Int32} {br_at' : Int32} {br_end' : Int32} {br_tb' : Int32} {br_len' : Int64} {br_fault' : Int32} {br_fp' : Int32} {t_c' : Int32} {t_f' : Nat → Int32} (hm : m_BlockReader_readBlock N x1 x2 x3 br_at br_end br_tb br_len br_fault br_fp i_c i_f t_c t_f = some (br_at', br_end', br_tb', br_len', br_fault', br_fp', t_c', t_f')) (sz : Nat) : tp_Cv l y_BlockReader_readBlock ws_BlockReader_readBlock rm_BlockReader_readBlock D (tp_ty cB cI) tM [.ref q_br, .int x1, .int x2, .int x3] [(q_br, .inr (0, [.ref q_i, .ref q_t, .int br_at, .int br_end, .int br_tb, .long br_len, .int br_fault, .int br_fp])), (q_i, .inr (3, [.ref q_iB, .int i_c])), (q_iB, .inl (cB, 10000, .inl i_f)), (q_t, .inr (3, [.ref q_tB, .int t_c])), (q_tB, .inl (cB, 10000, .inl t_f))] sz [(q_br, .inr (0, [.ref q_i, .ref q_t, .int br_at', .int br_end', .int br_tb', .long br_len', .int br_fault', .int br_fp'])), (q_i, .inr (3, [.ref q_iB, .int i_c])), (q_iB, .inl (cB, 10000, .inl i_f)), (q_t, .inr (3, [.ref q_tB, .int t_c'])), (q_tB, .inl (cB, 10000, .inl t_f'))] := by
  refine Met.ofW (cc := c_BlockReader_readBlock) (maxL := 5) (ret := none) (by decide) rfl ?_
  intro p e s m args below meth c s₁ B hml hv
  obtain ⟨rfl, hv⟩ := hv
  have hw := tp_entry hv
  generalize va_A [(q_br, .inr (0, [.ref q_i, .ref q_t, .int br_at, .int br_end, .int br_tb, .long br_len, .int br_fault, .int br_fp])), (q_i, .inr (3, [.ref q_iB, .int i_c])), (q_iB, .inl (cB, 10000, .inl i_f)), (q_t, .inr (3, [.ref q_tB, .int t_c])), (q_tB, .inl (cB, 10000, .inl t_f))] sz = A at hw ⊢
  have hx := B.exec
  have hb := B.bytes
  have hr := B.returns
  have hts0 := atoms_spec (ws := ws_BlockReader_readBlock) B.pre
  have hts := fun w h => hts0 w (List.mem_cons_of_mem _ h)
  have hown : s.vm.findClass R_BlockReader = some m.cls := findClass_of_methodNamed B.named
  have hlocks := B.notSynchronized
  have hF : CallFix p m c c_BlockReader_readBlock 5 s _ tpG R_BlockReader := ⟨hx, hb, hml, hown, hts⟩
  have hF2 : tp_F p m c c_BlockReader_readBlock 5 s _ tpG R_BlockReader meth none := ⟨hF, hr, hlocks⟩
  have hl := lv_entry ([.ref q_br, .int x1, .int x2, .int x3]) (n := 5) (Nat.le_of_ble_eq_true rfl)
  rw [lg_entry_eq]
  generalize (lg_sl ([.ref q_br, .int x1, .int x2, .int x3]) ++ List.replicate (5 - (lg_sl ([.ref q_br, .int x1, .int x2, .int x3])).length) Slot.unset).toArray = ls at hl ⊢
  replace hl : lv_has ls 5 [(0, .ref q_br), (1, .int x1), (2, .int x2), (3, .int x3)] := hl
  unfold m_BlockReader_readBlock at hm
  refine lv_aload_n hx hb d_BlockReader_readBlock_0 rfl (lv_at hl 0 rfl) ?_
  refine lv_iload_n hx hb d_BlockReader_readBlock_1 rfl (lv_at hl 1 rfl) ?_
  refine tp_put (v := .int x1) (C := R_BlockReader) (T := T_BlockReader) (WS' := [(q_br, .inr (0, [.ref q_i, .ref q_t, .int x1, .int br_end, .int br_tb, .long br_len, .int br_fault, .int br_fp])), (q_i, .inr (3, [.ref q_iB, .int i_c])), (q_iB, .inl (cB, 10000, .inl i_f)), (q_t, .inr (3, [.ref q_tB, .int t_c])), (q_tB, .inl (cB, 10000, .inl t_f))]) hx hb hts fw_BlockReader ty_BlockReader ty_BlockReader_ok nm_BlockReader hown hw 0 rfl rfl 2 (by decide +kernel) (hts _ wd_139) rfl rfl rfl (Nat.le_of_ble_eq_true rfl) rfl d_BlockReader_readBlock_2 (fun H locs hw => ?_)
  refine lv_aload_n hx hb d_BlockReader_readBlock_5 rfl (lv_at hl 0 rfl) ?_
  refine lv_iload_n hx hb d_BlockReader_readBlock_6 rfl (lv_at hl 2 rfl) ?_
  refine tp_put (v := .int x2) (C := R_BlockReader) (T := T_BlockReader) (WS' := [(q_br, .inr (0, [.ref q_i, .ref q_t, .int x1, .int x2, .int br_tb, .long br_len, .int br_fault, .int br_fp])), (q_i, .inr (3, [.ref q_iB, .int i_c])), (q_iB, .inl (cB, 10000, .inl i_f)), (q_t, .inr (3, [.ref q_tB, .int t_c])), (q_tB, .inl (cB, 10000, .inl t_f))]) hx hb hts fw_BlockReader ty_BlockReader ty_BlockReader_ok nm_BlockReader hown hw 0 rfl rfl 3 (by decide +kernel) (hts _ wd_140) rfl rfl rfl (Nat.le_of_ble_eq_true rfl) rfl d_BlockReader_readBlock_7 (fun H locs hw => ?_)
  refine lv_aload_n hx hb d_BlockReader_readBlock_10 rfl (lv_at hl 0 rfl) ?_
  refine lv_aload_n hx hb d_BlockReader_readBlock_11 rfl (lv_at hl 0 rfl) ?_
  refine tp_get (v := .ref q_t) (C := R_BlockReader) (T := T_BlockReader) hx hb hts fw_BlockReader hown hw 0 rfl rfl 1 (by decide +kernel) (hts _ wd_135) rfl d_BlockReader_readBlock_12 ?_
  refine tp_getN (v := .int t_c) (C := R_Row) (T := T_Row) hx hb hts fw_Row hown hw 3 rfl rfl 1 (by decide +kernel) nw_6 rfl d_BlockReader_readBlock_15 ?_
  refine tp_put (v := .int t_c) (C := R_BlockReader) (T := T_BlockReader) (WS' := [(q_br, .inr (0, [.ref q_i, .ref q_t, .int x1, .int x2, .int t_c, .long br_len, .int br_fault, .int br_fp])), (q_i, .inr (3, [.ref q_iB, .int i_c])), (q_iB, .inl (cB, 10000, .inl i_f)), (q_t, .inr (3, [.ref q_tB, .int t_c])), (q_tB, .inl (cB, 10000, .inl t_f))]) hx hb hts fw_BlockReader ty_BlockReader ty_BlockReader_ok nm_BlockReader hown hw 0 rfl rfl 4 (by decide +kernel) (hts _ wd_136) rfl rfl rfl (Nat.le_of_ble_eq_true rfl) rfl d_BlockReader_readBlock_18 (fun H locs hw => ?_)
  refine lv_aload_n hx hb d_BlockReader_readBlock_21 rfl (lv_at hl 0 rfl) ?_
  refine lv_iconst (v := (0 : Int32)) hx hb d_BlockReader_readBlock_22 (by decide +kernel) ?_
  refine tp_put (v := .int (0 : Int32)) (C := R_BlockReader) (T := T_BlockReader) (WS' := [(q_br, .inr (0, [.ref q_i, .ref q_t, .int x1, .int x2, .int t_c, .long br_len, .int (0 : Int32), .int br_fp])), (q_i, .inr (3, [.ref q_iB, .int i_c])), (q_iB, .inl (cB, 10000, .inl i_f)), (q_t, .inr (3, [.ref q_tB, .int t_c])), (q_tB, .inl (cB, 10000, .inl t_f))]) hx hb hts fw_BlockReader ty_BlockReader ty_BlockReader_ok nm_BlockReader hown hw 0 rfl rfl 6 (by decide +kernel) (hts _ wd_137) rfl rfl rfl (Nat.le_of_ble_eq_true rfl) rfl d_BlockReader_readBlock_23 (fun H locs hw => ?_)
  refine lv_aload_n hx hb d_BlockReader_readBlock_26 rfl (lv_at hl 0 rfl) ?_
  refine lv_iload_n hx hb d_BlockReader_readBlock_27 rfl (lv_at hl 3 rfl) ?_
  obtain ⟨br_at_1, br_len_2, br_fault_3, br_fp_4, hm5, hm⟩ := tp_b4_e hm
  refine tp_callv (wr := []) (WS' := [(q_br, .inr (0, [.ref q_i, .ref q_t, .int br_at_1, .int x2, .int t_c, .long br_len_2, .int br_fault_3, .int br_fp_4])), (q_i, .inr (3, [.ref q_iB, .int i_c])), (q_iB, .inl (cB, 10000, .inl i_f)), (q_t, .inr (3, [.ref q_tB, .int t_c])), (q_tB, .inl (cB, 10000, .inl t_f))]) (va_runV (As := [.int x3]) (rest := []) hF (ct_BlockReader_readLength (l := l) (D := D) (cB := cB) (cI := cI) (tM := tM) (q_br := q_br) (q_i := q_i) (q_iB := q_iB) (q_t := q_t) (q_tB := q_tB) (br_at := x1) (br_end := x2) (br_tb := t_c) (br_len := br_len) (br_fault := (0 : Int32)) (br_fp := br_fp) (i_c := i_c) (i_f := i_f) (t_c := t_c) (t_f := t_f) (x1 := x3) (N := N) (br_at' := br_at_1) (br_len' := br_len_2) (br_fault' := br_fault_3) (br_fp' := br_fp_4) hm5 _) (cwV 1 hts (tpG_V wd_176 wd_177 wd_178 wd_144 wd_175) rfl rfl rfl ⟨rfl, yd_BlockReader_readLength⟩ ⟨Nat.le_of_ble_eq_true rfl, Nat.le_of_ble_eq_true rfl⟩) ⟨tp_blind, va_recv hw.1 hw.2.1 (ci := 0) (q0 := 0) rfl rfl, tp_pre hw [0, 1, 2, 3, 4] rfl rfl⟩ rfl rfl hl.1 rfl (lv_room (Nat.le_of_ble_eq_true rfl)) d_BlockReader_readBlock_28 ⟨Nat.le_of_ble_eq_true rfl, Nat.le_of_ble_eq_true rfl⟩) hw [0, 1, 2, 3, 4] [] [0, 1, 2, 3, 4] rfl rfl rfl (by decide) rfl rfl (fun H locs hw => ?_)
  refine lv_iconst (v := (0 : Int32)) hx hb d_BlockReader_readBlock_31 (by decide +kernel) ?_
  refine lv_istore (lv' := [(4, .int (0 : Int32)), (0, .ref q_br), (1, .int x1), (2, .int x2), (3, .int x3)]) hx hb d_BlockReader_readBlock_32 hl (by decide +kernel) rfl (fun ls hl => ?_)
  exact w_BlockReader_readBlock_34 hF2  N _ _ _ _ _ _ _ _ _ _ _ _ hm hw (lv_sub hl [1, 0] rfl)
end
