abbrev rm_StreamReader_fail : Room := { frames := 0, cells := 0, slots := 0, locals := 0 }
abbrev ws_StreamReader_fail : List Cond := .code y_StreamReader_fail c_StreamReader_fail 3 none :: tpG
noncomputable def m_StreamReader_fail (x1 : Int32) (x2 : Int32) (sr_fault : Int32) (sr_fp : Int32) : Option (Int32 × Int32) :=
  if sr_fault = 0 then
    some (x1, x2)
  else
    some (sr_fault, sr_fp)
section
variable {p : Program} {l : Launch} {e : Env} {s : State} {m : MethodId} {args : Array Value} {below : List Frame} {meth : Method} {c : Code} {A : Nat → Prop} {D : va_G} {cB cI : ClassId} {tM : Nat}
set_option maxHeartbeats 4000000 in
set_option maxRecDepth 100000 in
theorem ct_StreamReader_fail {q_sr q_i q_iB q_t q_tB q_br : Nat} {sr_at : Int32} {sr_most : Int32} {sr_fault : Int32} {sr_fp : Int32} {i_c : Int32} {i_f : Nat → Int32} {t_c : Int32} {t_f : Nat → Int32} {br_at : Int32} {br_end : Int32} {br_tb : Int32} {br_len : Int64} {br_fault : Int32} {br_fp : Int32} {x1 : Int32} {x2 : Int32} {sr_fault' : Int32} {sr_fp' : Int32} (hm : m_StreamReader_fail x1 x2 sr_fault sr_fp = some (sr_fault', sr_fp')) (sz : Nat) : tp_Cv l y_StreamReader_fail ws_StreamReader_fail rm_StreamReader_fail D (tp_ty cB cI) tM [.ref q_sr, .int x1, .int x2] [(q_sr, .inr (4, [.ref q_i, .ref q_t, .ref q_br, .int sr_at, .int sr_most, .int sr_fault, .int sr_fp])), (q_i, .inr (3, [.ref q_iB, .int i_c])), (q_iB, .inl (cB, 10000, .inl i_f)), (q_t, .inr (3, [.ref q_tB, .int t_c])), (q_tB, .inl (cB, 10000, .inl t_f)), (q_br, .inr (0, [.ref q_i, .ref q_t, .int br_at, .int br_end, .int br_tb, .long br_len, .int br_fault, .int br_fp]))] sz [(q_sr, .inr (4, [.ref q_i, .ref q_t, .ref q_br, .int sr_at, .int sr_most, .int sr_fault', .int sr_fp'])), (q_i, .inr (3, [.ref q_iB, .int i_c])), (q_iB, .inl (cB, 10000, .inl i_f)), (q_t, .inr (3, [.ref q_tB, .int t_c])), (q_tB, .inl (cB, 10000, .inl t_f)), (q_br, .inr (0, [.ref q_i, .ref q_t, .int br_at, .int br_end, .int br_tb, .long br_len, .int br_fault, .int br_fp]))] := by
  refine Met.ofW (cc := c_StreamReader_fail) (maxL := 3) (ret := none) (by decide) rfl ?_
  intro p e s m args below meth c s₁ B hml hv
  obtain ⟨rfl, hv⟩ := hv
  have hw := tp_entry hv
  generalize va_A [(q_sr, .inr (4, [.ref q_i, .ref q_t, .ref q_br, .int sr_at, .int sr_most, .int sr_fault, .int sr_fp])), (q_i, .inr (3, [.ref q_iB, .int i_c])), (q_iB, .inl (cB, 10000, .inl i_f)), (q_t, .inr (3, [.ref q_tB, .int t_c])), (q_tB, .inl (cB, 10000, .inl t_f)), (q_br, .inr (0, [.ref q_i, .ref q_t, .int br_at, .int br_end, .int br_tb, .long br_len, .int br_fault, .int br_fp]))] sz = A at hw ⊢
  have hx := B.exec
  have hb := B.bytes
  have hr := B.returns
  have hts0 := atoms_spec (ws := ws_StreamReader_fail) B.pre
  have hts := fun w h => hts0 w (List.mem_cons_of_mem _ h)
  have hown : s.vm.findClass R_StreamReader = some m.cls := findClass_of_methodNamed B.named
  have hlocks := B.notSynchronized
  have hF : CallFix p m c c_StreamReader_fail 3 s _ tpG R_StreamReader := ⟨hx, hb, hml, hown, hts⟩
  have hF2 : tp_F p m c c_StreamReader_fail 3 s _ tpG R_StreamReader meth none := ⟨hF, hr, hlocks⟩
  have hl := lv_entry ([.ref q_sr, .int x1, .int x2]) (n := 3) (Nat.le_of_ble_eq_true rfl)
  rw [lg_entry_eq]
  generalize (lg_sl ([.ref q_sr, .int x1, .int x2]) ++ List.replicate (3 - (lg_sl ([.ref q_sr, .int x1, .int x2])).length) Slot.unset).toArray = ls at hl ⊢
  replace hl : lv_has ls 3 [(0, .ref q_sr), (1, .int x1), (2, .int x2)] := hl
  unfold m_StreamReader_fail at hm
  refine lv_aload_n hx hb d_StreamReader_fail_0 rfl (lv_at hl 0 rfl) ?_
  refine tp_get (v := .int sr_fault) (C := R_StreamReader) (T := T_StreamReader) hx hb hts fw_StreamReader hown hw 0 rfl rfl 5 (by decide +kernel) (hts _ wd_183) rfl d_StreamReader_fail_1 ?_
  refine lv_if_ne (tgt := 17) hx hb d_StreamReader_fail_4 (by decide +kernel) (fun hc1 => ?_) (fun hc1 => ?_)
  · replace hm := tp_if hc1 hm
    obtain ⟨rfl, rfl⟩ := tp_inj2 hm
    exact tp_vret () hx hb hr hlocks hw d_StreamReader_fail_17
  · replace hm := tp_it hc1 hm
    refine lv_aload_n hx hb d_StreamReader_fail_7 rfl (lv_at hl 0 rfl) ?_
    refine lv_iload_n hx hb d_StreamReader_fail_8 rfl (lv_at hl 1 rfl) ?_
    refine tp_put (v := .int x1) (C := R_StreamReader) (T := T_StreamReader) (WS' := [(q_sr, .inr (4, [.ref q_i, .ref q_t, .ref q_br, .int sr_at, .int sr_most, .int x1, .int sr_fp])), (q_i, .inr (3, [.ref q_iB, .int i_c])), (q_iB, .inl (cB, 10000, .inl i_f)), (q_t, .inr (3, [.ref q_tB, .int t_c])), (q_tB, .inl (cB, 10000, .inl t_f)), (q_br, .inr (0, [.ref q_i, .ref q_t, .int br_at, .int br_end, .int br_tb, .long br_len, .int br_fault, .int br_fp]))]) hx hb hts fw_StreamReader ty_StreamReader ty_StreamReader_ok nm_StreamReader hown hw 0 rfl rfl 5 (by decide +kernel) (hts _ wd_183) rfl rfl rfl (Nat.le_of_ble_eq_true rfl) rfl d_StreamReader_fail_9 (fun H locs hw => ?_)
    refine lv_aload_n hx hb d_StreamReader_fail_12 rfl (lv_at hl 0 rfl) ?_
    refine lv_iload_n hx hb d_StreamReader_fail_13 rfl (lv_at hl 2 rfl) ?_
    refine tp_put (v := .int x2) (C := R_StreamReader) (T := T_StreamReader) (WS' := [(q_sr, .inr (4, [.ref q_i, .ref q_t, .ref q_br, .int sr_at, .int sr_most, .int x1, .int x2])), (q_i, .inr (3, [.ref q_iB, .int i_c])), (q_iB, .inl (cB, 10000, .inl i_f)), (q_t, .inr (3, [.ref q_tB, .int t_c])), (q_tB, .inl (cB, 10000, .inl t_f)), (q_br, .inr (0, [.ref q_i, .ref q_t, .int br_at, .int br_end, .int br_tb, .long br_len, .int br_fault, .int br_fp]))]) hx hb hts fw_StreamReader ty_StreamReader ty_StreamReader_ok nm_StreamReader hown hw 0 rfl rfl 6 (by decide +kernel) (hts _ wd_184) rfl rfl rfl (Nat.le_of_ble_eq_true rfl) rfl d_StreamReader_fail_14 (fun H locs hw => ?_)
    obtain ⟨rfl, rfl⟩ := tp_inj2 hm
    exact tp_vret () hx hb hr hlocks hw d_StreamReader_fail_17
end
abbrev rm_StreamReader_begin : Room := { frames := 0, cells := 0, slots := 0, locals := 0 }
abbrev ws_StreamReader_begin : List Cond := .code y_StreamReader_begin c_StreamReader_begin 2 none :: tpG
noncomputable def m_StreamReader_begin (x1 : Int32) (sr_at : Int32) (sr_most : Int32) (sr_fault : Int32) : Option (Int32 × Int32 × Int32) :=
  some ((0 : Int32), x1, (0 : Int32))
section
variable {p : Program} {l : Launch} {e : Env} {s : State} {m : MethodId} {args : Array Value} {below : List Frame} {meth : Method} {c : Code} {A : Nat → Prop} {D : va_G} {cB cI : ClassId} {tM : Nat}
set_option maxHeartbeats 4000000 in
set_option maxRecDepth 100000 in
theorem ct_StreamReader_begin {q_sr q_i q_iB q_t q_tB q_br : Nat} {sr_at : Int32} {sr_most : Int32} {sr_fault : Int32} {sr_fp : Int32} {i_c : Int32} {i_f : Nat → Int32} {t_c : Int32} {t_f : Nat → Int32} {br_at : Int32} {br_end : Int32} {br_tb : Int32} {br_len : Int64} {br_fault : Int32} {br_fp : Int32} {x1 : Int32} {sr_at' : Int32} {sr_most' : Int32} {sr_fault' : Int32} (hm : m_StreamReader_begin x1 sr_at sr_most sr_fault = some (sr_at', sr_most', sr_fault')) (sz : Nat) : tp_Cv l y_StreamReader_begin ws_StreamReader_begin rm_StreamReader_begin D (tp_ty cB cI) tM [.ref q_sr, .int x1] [(q_sr, .inr (4, [.ref q_i, .ref q_t, .ref q_br, .int sr_at, .int sr_most, .int sr_fault, .int sr_fp])), (q_i, .inr (3, [.ref q_iB, .int i_c])), (q_iB, .inl (cB, 10000, .inl i_f)), (q_t, .inr (3, [.ref q_tB, .int t_c])), (q_tB, .inl (cB, 10000, .inl t_f)), (q_br, .inr (0, [.ref q_i, .ref q_t, .int br_at, .int br_end, .int br_tb, .long br_len, .int br_fault, .int br_fp]))] sz [(q_sr, .inr (4, [.ref q_i, .ref q_t, .ref q_br, .int sr_at', .int sr_most', .int sr_fault', .int sr_fp])), (q_i, .inr (3, [.ref q_iB, .int i_c])), (q_iB, .inl (cB, 10000, .inl i_f)), (q_t, .inr (3, [.ref q_tB, .int t_c])), (q_tB, .inl (cB, 10000, .inl t_f)), (q_br, .inr (0, [.ref q_i, .ref q_t, .int br_at, .int br_end, .int br_tb, .long br_len, .int br_fault, .int br_fp]))] := by
  refine Met.ofW (cc := c_StreamReader_begin) (maxL := 2) (ret := none) (by decide) rfl ?_
  intro p e s m args below meth c s₁ B hml hv
  obtain ⟨rfl, hv⟩ := hv
  have hw := tp_entry hv
  generalize va_A [(q_sr, .inr (4, [.ref q_i, .ref q_t, .ref q_br, .int sr_at, .int sr_most, .int sr_fault, .int sr_fp])), (q_i, .inr (3, [.ref q_iB, .int i_c])), (q_iB, .inl (cB, 10000, .inl i_f)), (q_t, .inr (3, [.ref q_tB, .int t_c])), (q_tB, .inl (cB, 10000, .inl t_f)), (q_br, .inr (0, [.ref q_i, .ref q_t, .int br_at, .int br_end, .int br_tb, .long br_len, .int br_fault, .int br_fp]))] sz = A at hw ⊢
  have hx := B.exec
  have hb := B.bytes
  have hr := B.returns
  have hts0 := atoms_spec (ws := ws_StreamReader_begin) B.pre
  have hts := fun w h => hts0 w (List.mem_cons_of_mem _ h)
  have hown : s.vm.findClass R_StreamReader = some m.cls := findClass_of_methodNamed B.named
  have hlocks := B.notSynchronized
  have hF : CallFix p m c c_StreamReader_begin 2 s _ tpG R_StreamReader := ⟨hx, hb, hml, hown, hts⟩
  have hF2 : tp_F p m c c_StreamReader_begin 2 s _ tpG R_StreamReader meth none := ⟨hF, hr, hlocks⟩
  have hl := lv_entry ([.ref q_sr, .int x1]) (n := 2) (Nat.le_of_ble_eq_true rfl)
  rw [lg_entry_eq]
  generalize (lg_sl ([.ref q_sr, .int x1]) ++ List.replicate (2 - (lg_sl ([.ref q_sr, .int x1])).length) Slot.unset).toArray = ls at hl ⊢
  replace hl : lv_has ls 2 [(0, .ref q_sr), (1, .int x1)] := hl
  unfold m_StreamReader_begin at hm
  refine lv_aload_n hx hb d_StreamReader_begin_0 rfl (lv_at hl 0 rfl) ?_
  refine lv_iconst (v := (0 : Int32)) hx hb d_StreamReader_begin_1 (by decide +kernel) ?_
  refine tp_put (v := .int (0 : Int32)) (C := R_StreamReader) (T := T_StreamReader) (WS' := [(q_sr, .inr (4, [.ref q_i, .ref q_t, .ref q_br, .int (0 : Int32), .int sr_most, .int sr_fault, .int sr_fp])), (q_i, .inr (3, [.ref q_iB, .int i_c])), (q_iB, .inl (cB, 10000, .inl i_f)), (q_t, .inr (3, [.ref q_tB, .int t_c])), (q_tB, .inl (cB, 10000, .inl t_f)), (q_br, .inr (0, [.ref q_i, .ref q_t, .int br_at, .int br_end, .int br_tb, .long br_len, .int br_fault, .int br_fp]))]) hx hb hts fw_StreamReader ty_StreamReader ty_StreamReader_ok nm_StreamReader hown hw 0 rfl rfl 3 (by decide +kernel) (hts _ wd_185) rfl rfl rfl (Nat.le_of_ble_eq_true rfl) rfl d_StreamReader_begin_2 (fun H locs hw => ?_)
  refine lv_aload_n hx hb d_StreamReader_begin_5 rfl (lv_at hl 0 rfl) ?_
  refine lv_iload_n hx hb d_StreamReader_begin_6 rfl (lv_at hl 1 rfl) ?_
  refine tp_put (v := .int x1) (C := R_StreamReader) (T := T_StreamReader) (WS' := [(q_sr, .inr (4, [.ref q_i, .ref q_t, .ref q_br, .int (0 : Int32), .int x1, .int sr_fault, .int sr_fp])), (q_i, .inr (3, [.ref q_iB, .int i_c])), (q_iB, .inl (cB, 10000, .inl i_f)), (q_t, .inr (3, [.ref q_tB, .int t_c])), (q_tB, .inl (cB, 10000, .inl t_f)), (q_br, .inr (0, [.ref q_i, .ref q_t, .int br_at, .int br_end, .int br_tb, .long br_len, .int br_fault, .int br_fp]))]) hx hb hts fw_StreamReader ty_StreamReader ty_StreamReader_ok nm_StreamReader hown hw 0 rfl rfl 4 (by decide +kernel) (hts _ wd_186) rfl rfl rfl (Nat.le_of_ble_eq_true rfl) rfl d_StreamReader_begin_7 (fun H locs hw => ?_)
  refine lv_aload_n hx hb d_StreamReader_begin_10 rfl (lv_at hl 0 rfl) ?_
  refine lv_iconst (v := (0 : Int32)) hx hb d_StreamReader_begin_11 (by decide +kernel) ?_
  refine tp_put (v := .int (0 : Int32)) (C := R_StreamReader) (T := T_StreamReader) (WS' := [(q_sr, .inr (4, [.ref q_i, .ref q_t, .ref q_br, .int (0 : Int32), .int x1, .int (0 : Int32), .int sr_fp])), (q_i, .inr (3, [.ref q_iB, .int i_c])), (q_iB, .inl (cB, 10000, .inl i_f)), (q_t, .inr (3, [.ref q_tB, .int t_c])), (q_tB, .inl (cB, 10000, .inl t_f)), (q_br, .inr (0, [.ref q_i, .ref q_t, .int br_at, .int br_end, .int br_tb, .long br_len, .int br_fault, .int br_fp]))]) hx hb hts fw_StreamReader ty_StreamReader ty_StreamReader_ok nm_StreamReader hown hw 0 rfl rfl 5 (by decide +kernel) (hts _ wd_183) rfl rfl rfl (Nat.le_of_ble_eq_true rfl) rfl d_StreamReader_begin_12 (fun H locs hw => ?_)
  obtain ⟨rfl, rfl, rfl⟩ := tp_inj3 hm
  exact tp_vret () hx hb hr hlocks hw d_StreamReader_begin_15
end
abbrev rm_StreamReader_hasMore : Room := { frames := 0, cells := 0, slots := 0, locals := 0 }
abbrev ws_StreamReader_hasMore : List Cond := .code y_StreamReader_hasMore c_StreamReader_hasMore 1 (some .boolean) :: tpG
noncomputable def m_StreamReader_hasMore (sr_at : Int32) (sr_fault : Int32) (i_c : Int32) : Option (Int32) :=
  if sr_fault = 0 then
    if i_c ≤ sr_at then
      some ((0 : Int32))
    else
      some ((1 : Int32))
  else
    some ((0 : Int32))
section
variable {p : Program} {l : Launch} {e : Env} {s : State} {m : MethodId} {args : Array Value} {below : List Frame} {meth : Method} {c : Code} {A : Nat → Prop} {D : va_G} {cB cI : ClassId} {tM : Nat}
set_option maxHeartbeats 4000000 in
set_option maxRecDepth 100000 in
theorem ct_StreamReader_hasMore {q_sr q_i q_iB q_t q_tB q_br : Nat} {sr_at : Int32} {sr_most : Int32} {sr_fault : Int32} {sr_fp : Int32} {i_c : Int32} {i_f : Nat → Int32} {t_c : Int32} {t_f : Nat → Int32} {br_at : Int32} {br_end : Int32} {br_tb : Int32} {br_len : Int64} {br_fault : Int32} {br_fp : Int32} {r : Int32} (hm : m_StreamReader_hasMore sr_at sr_fault i_c = some (r)) (sz : Nat) : tp_Ci l y_StreamReader_hasMore ws_StreamReader_hasMore rm_StreamReader_hasMore D (tp_ty cB cI) tM [.ref q_sr] [(q_sr, .inr (4, [.ref q_i, .ref q_t, .ref q_br, .int sr_at, .int sr_most, .int sr_fault, .int sr_fp])), (q_i, .inr (3, [.ref q_iB, .int i_c])), (q_iB, .inl (cB, 10000, .inl i_f)), (q_t, .inr (3, [.ref q_tB, .int t_c])), (q_tB, .inl (cB, 10000, .inl t_f)), (q_br, .inr (0, [.ref q_i, .ref q_t, .int br_at, .int br_end, .int br_tb, .long br_len, .int br_fault, .int br_fp]))] sz r [(q_sr, .inr (4, [.ref q_i, .ref q_t, .ref q_br, .int sr_at, .int sr_most, .int sr_fault, .int sr_fp])), (q_i, .inr (3, [.ref q_iB, .int i_c])), (q_iB, .inl (cB, 10000, .inl i_f)), (q_t, .inr (3, [.ref q_tB, .int t_c])), (q_tB, .inl (cB, 10000, .inl t_f)), (q_br, .inr (0, [.ref q_i, .ref q_t, .int br_at, .int br_end, .int br_tb, .long br_len, .int br_fault, .int br_fp]))] := by
  refine Met.ofW (cc := c_StreamReader_hasMore) (maxL := 1) (ret := (some .boolean)) (by decide) rfl ?_
  intro p e s m args below meth c s₁ B hml hv
  obtain ⟨rfl, hv⟩ := hv
  have hw := tp_entry hv
  generalize va_A [(q_sr, .inr (4, [.ref q_i, .ref q_t, .ref q_br, .int sr_at, .int sr_most, .int sr_fault, .int sr_fp])), (q_i, .inr (3, [.ref q_iB, .int i_c])), (q_iB, .inl (cB, 10000, .inl i_f)), (q_t, .inr (3, [.ref q_tB, .int t_c])), (q_tB, .inl (cB, 10000, .inl t_f)), (q_br, .inr (0, [.ref q_i, .ref q_t, .int br_at, .int br_end, .int br_tb, .long br_len, .int br_fault, .int br_fp]))] sz = A at hw ⊢
  have hx := B.exec
  have hb := B.bytes
  have hr := B.returns
  have hts0 := atoms_spec (ws := ws_StreamReader_hasMore) B.pre
  have hts := fun w h => hts0 w (List.mem_cons_of_mem _ h)
  have hown : s.vm.findClass R_StreamReader = some m.cls := findClass_of_methodNamed B.named
  have hlocks := B.notSynchronized
  have hF : CallFix p m c c_StreamReader_hasMore 1 s _ tpG R_StreamReader := ⟨hx, hb, hml, hown, hts⟩
  have hF2 : tp_F p m c c_StreamReader_hasMore 1 s _ tpG R_StreamReader meth (some .boolean) := ⟨hF, hr, hlocks⟩
  have hl := lv_entry ([.ref q_sr]) (n := 1) (Nat.le_of_ble_eq_true rfl)
  rw [lg_entry_eq]
  generalize (lg_sl ([.ref q_sr]) ++ List.replicate (1 - (lg_sl ([.ref q_sr])).length) Slot.unset).toArray = ls at hl ⊢
  replace hl : lv_has ls 1 [(0, .ref q_sr)] := hl
  unfold m_StreamReader_hasMore at hm
  refine lv_aload_n hx hb d_StreamReader_hasMore_0 rfl (lv_at hl 0 rfl) ?_
  refine tp_get (v := .int sr_fault) (C := R_StreamReader) (T := T_StreamReader) hx hb hts fw_StreamReader hown hw 0 rfl rfl 5 (by decide +kernel) (hts _ wd_183) rfl d_StreamReader_hasMore_1 ?_
  refine lv_if_ne (tgt := 25) hx hb d_StreamReader_hasMore_4 (by decide +kernel) (fun hc1 => ?_) (fun hc1 => ?_)
  · replace hm := tp_if hc1 hm
    refine lv_iconst (v := (0 : Int32)) hx hb d_StreamReader_hasMore_25 (by decide +kernel) ?_
    obtain rfl := tp_inj1 hm
    exact tp_zret hx hb hr hlocks rfl hw d_StreamReader_hasMore_26
  · replace hm := tp_it hc1 hm
    refine lv_aload_n hx hb d_StreamReader_hasMore_7 rfl (lv_at hl 0 rfl) ?_
    refine tp_get (v := .int sr_at) (C := R_StreamReader) (T := T_StreamReader) hx hb hts fw_StreamReader hown hw 0 rfl rfl 3 (by decide +kernel) (hts _ wd_185) rfl d_StreamReader_hasMore_8 ?_
    refine lv_aload_n hx hb d_StreamReader_hasMore_11 rfl (lv_at hl 0 rfl) ?_
    refine tp_get (v := .ref q_i) (C := R_StreamReader) (T := T_StreamReader) hx hb hts fw_StreamReader hown hw 0 rfl rfl 0 (by decide +kernel) (hts _ wd_187) rfl d_StreamReader_hasMore_12 ?_
    refine tp_getN (v := .int i_c) (C := R_Row) (T := T_Row) hx hb hts fw_Row hown hw 1 rfl rfl 1 (by decide +kernel) nw_7 rfl d_StreamReader_hasMore_15 ?_
    refine lv_icmp_ge (tgt := 25) hx hb d_StreamReader_hasMore_18 (by decide +kernel) (fun hc2 => ?_) (fun hc2 => ?_)
    · replace hm := tp_it hc2 hm
      refine lv_iconst (v := (0 : Int32)) hx hb d_StreamReader_hasMore_25 (by decide +kernel) ?_
      obtain rfl := tp_inj1 hm
      exact tp_zret hx hb hr hlocks rfl hw d_StreamReader_hasMore_26
    · replace hm := tp_if hc2 hm
      refine lv_iconst (v := (1 : Int32)) hx hb d_StreamReader_hasMore_21 (by decide +kernel) ?_
      refine lv_goto (tgt := 26) hx hb d_StreamReader_hasMore_22 (by decide +kernel) ?_
      obtain rfl := tp_inj1 hm
      exact tp_zret hx hb hr hlocks rfl hw d_StreamReader_hasMore_26
end
abbrev rm_StreamReader_checkHead : Room := { frames := 1, cells := 0, slots := 0, locals := 22 }
abbrev ws_StreamReader_checkHead : List Cond := .code y_StreamReader_checkHead c_StreamReader_checkHead 5 none :: tpG
noncomputable def m_StreamReader_checkHead_127 (sr_at : Int32) (i_c : Int32) (x1 : Int32) (x2 : Int32) (sr_fault : Int32) (sr_fp : Int32) : Option (Int32 × Int32) :=
  if x1 = (1 : Int32) then
    if x2 ≤ (65540 : Int32) then
      some (sr_fault, sr_fp)
    else
      tp_b2 (m_StreamReader_fail (10 : Int32) sr_at sr_fault sr_fp) fun sr_fault_25 sr_fp_26 =>
      some (sr_fault_25, sr_fp_26)
  else
    some (sr_fault, sr_fp)
noncomputable def m_StreamReader_checkHead_83 (sr_at : Int32) (i_c : Int32) (x1 : Int32) (x2 : Int32) (x3 : Int32) (x4 : Int32) (sr_fault : Int32) (sr_fp : Int32) : Option (Int32 × Int32) :=
  if x2 ≤ x3 then
    if x4 = 0 then
      m_StreamReader_checkHead_127 sr_at i_c  x1 x2 sr_fault sr_fp
    else
      if (4 : Int32) ≤ x2 then
        m_StreamReader_checkHead_127 sr_at i_c  x1 x2 sr_fault sr_fp
      else
        tp_b2 (m_StreamReader_fail (10 : Int32) sr_at sr_fault sr_fp) fun sr_fault_17 sr_fp_18 =>
        some (sr_fault_17, sr_fp_18)
  else
    tp_b2 (m_StreamReader_fail (7 : Int32) i_c sr_fault sr_fp) fun sr_fault_20 sr_fp_21 =>
    some (sr_fault_20, sr_fp_21)
noncomputable def m_StreamReader_checkHead_58 (sr_at : Int32) (i_c : Int32) (x1 : Int32) (x2 : Int32) (x3 : Int32) (x4 : Int32) (sr_fault : Int32) (sr_fp : Int32) : Option (Int32 × Int32) :=
  if x4 = 0 then
    if (128 : Int32) ≤ x1 then
      m_StreamReader_checkHead_83 sr_at i_c  x1 x2 x3 x4 sr_fault sr_fp
    else
      tp_b2 (m_StreamReader_fail (9 : Int32) sr_at sr_fault sr_fp) fun sr_fault_11 sr_fp_12 =>
      some (sr_fault_11, sr_fp_12)
  else
    m_StreamReader_checkHead_83 sr_at i_c  x1 x2 x3 x4 sr_fault sr_fp
noncomputable def m_StreamReader_checkHead_29 (sr_at : Int32) (i_c : Int32) (x1 : Int32) (x2 : Int32) (x3 : Int32) (k0 : Int32) (sr_fault : Int32) (sr_fp : Int32) : Option (Int32 × Int32) :=
  if sr_at = 0 then
    if x1 = (255 : Int32) then
      m_StreamReader_checkHead_58 sr_at i_c  x1 x2 x3 k0 sr_fault sr_fp
    else
      tp_b2 (m_StreamReader_fail (8 : Int32) sr_at sr_fault sr_fp) fun sr_fault_6 sr_fp_7 =>
      some (sr_fault_6, sr_fp_7)
  else
    m_StreamReader_checkHead_58 sr_at i_c  x1 x2 x3 k0 sr_fault sr_fp
noncomputable def m_StreamReader_checkHead_24 (sr_at : Int32) (i_c : Int32) (x1 : Int32) (x2 : Int32) (x3 : Int32) (sr_fault : Int32) (sr_fp : Int32) : Option (Int32 × Int32) :=
  m_StreamReader_checkHead_29 sr_at i_c  x1 x2 x3 (1 : Int32) sr_fault sr_fp
noncomputable def m_StreamReader_checkHead (x1 : Int32) (x2 : Int32) (sr_at : Int32) (sr_fault : Int32) (sr_fp : Int32) (i_c : Int32) : Option (Int32 × Int32) :=
  tp_b0 ((i_c - sr_at) - (4 : Int32)) fun y1 =>
  if x1 = 0 then
    m_StreamReader_checkHead_24 sr_at i_c  x1 x2 y1 sr_fault sr_fp
  else
    if x1 = (1 : Int32) then
      m_StreamReader_checkHead_24 sr_at i_c  x1 x2 y1 sr_fault sr_fp
    else
      m_StreamReader_checkHead_29 sr_at i_c  x1 x2 y1 (0 : Int32) sr_fault sr_fp
section
variable {p : Program} {l : Launch} {e : Env} {s : State} {m : MethodId} {args : Array Value} {below : List Frame} {meth : Method} {c : Code} {A : Nat → Prop} {D : va_G} {cB cI : ClassId} {tM : Nat}
set_option maxHeartbeats 4000000 in
set_option maxRecDepth 100000 in
theorem w_StreamReader_checkHead_127 {q_sr q_i q_iB q_t q_tB q_br : Nat} {sr_at : Int32} {sr_most : Int32} {i_c : Int32} {i_f : Nat → Int32} {t_c : Int32} {t_f : Nat → Int32} {br_at : Int32} {br_end : Int32} {br_tb : Int32} {br_len : Int64} {br_fault : Int32} {br_fp : Int32} {sr_fault' : Int32} {sr_fp' : Int32} (hF2 : tp_F p m c c_StreamReader_checkHead 5 s args tpG R_StreamReader meth none) : ∀ (x1 : Int32) (x2 : Int32) (sr_fault : Int32) (sr_fp : Int32) (H : Heap) (locs : List Loc) (ls : Array Slot), m_StreamReader_checkHead_127 sr_at i_c  x1 x2 sr_fault sr_fp = some (sr_fault', sr_fp') → tp_Wd D (tp_ty cB cI) tM A s H locs [(q_sr, .inr (4, [.ref q_i, .ref q_t, .ref q_br, .int sr_at, .int sr_most, .int sr_fault, .int sr_fp])), (q_i, .inr (3, [.ref q_iB, .int i_c])), (q_iB, .inl (cB, 10000, .inl i_f)), (q_t, .inr (3, [.ref q_tB, .int t_c])), (q_tB, .inl (cB, 10000, .inl t_f)), (q_br, .inr (0, [.ref q_i, .ref q_t, .int br_at, .int br_end, .int br_tb, .long br_len, .int br_fault, .int br_fp]))] → lv_has ls 5 [(0, .ref q_sr), (1, .int x1), (2, .int x2)] → W p l e rm_StreamReader_checkHead s m args below meth c H locs 0 0 (MQ below (tp_Qv (S := Unit) D A (fun _ => [(q_sr, .inr (4, [.ref q_i, .ref q_t, .ref q_br, .int sr_at, .int sr_most, .int sr_fault', .int sr_fp'])), (q_i, .inr (3, [.ref q_iB, .int i_c])), (q_iB, .inl (cB, 10000, .inl i_f)), (q_t, .inr (3, [.ref q_tB, .int t_c])), (q_tB, .inl (cB, 10000, .inl t_f)), (q_br, .inr (0, [.ref q_i, .ref q_t, .int br_at, .int br_end, .int br_tb, .long br_len, .int br_fault, .int br_fp]))])) args s 0 0 A) (F0 m 127 ls []) := by
  obtain ⟨hF, hr, hlocks⟩ := id hF2
  obtain ⟨hx, hb, hml, hown, hts⟩ := id hF
  intro x1 x2 sr_fault sr_fp H locs ls hm hw hl
  unfold m_StreamReader_checkHead_127 at hm
  refine lv_iload_n hx hb d_StreamReader_checkHead_127 rfl (lv_at hl 1 rfl) ?_
  refine lv_iconst (v := (1 : Int32)) hx hb d_StreamReader_checkHead_128 (by decide +kernel) ?_
  refine lv_icmp_ne (tgt := 148) hx hb d_StreamReader_checkHead_129 (by decide +kernel) (fun hc23 => ?_) (fun hc23 => ?_)
  · replace hm := tp_if hc23 hm
    obtain ⟨rfl, rfl⟩ := tp_inj2 hm
    exact tp_vret () hx hb hr hlocks hw d_StreamReader_checkHead_148
  · replace hm := tp_it hc23 hm
    refine lv_iload_n hx hb d_StreamReader_checkHead_132 rfl (lv_at hl 2 rfl) ?_
    refine lv_ldc (v := (65540 : Int32)) hx hb hown (hts _ wd_193) d_StreamReader_checkHead_133 ?_
    refine lv_icmp_le (tgt := 148) hx hb d_StreamReader_checkHead_135 (by decide +kernel) (fun hc24 => ?_) (fun hc24 => ?_)
    · replace hm := tp_it hc24 hm
      obtain ⟨rfl, rfl⟩ := tp_inj2 hm
      exact tp_vret () hx hb hr hlocks hw d_StreamReader_checkHead_148
    · replace hm := tp_if hc24 hm
      refine lv_aload_n hx hb d_StreamReader_checkHead_138 rfl (lv_at hl 0 rfl) ?_
      refine lv_bipush (v := (10 : Int32)) hx hb d_StreamReader_checkHead_139 (by decide +kernel) ?_
      refine lv_aload_n hx hb d_StreamReader_checkHead_141 rfl (lv_at hl 0 rfl) ?_
      refine tp_get (v := .int sr_at) (C := R_StreamReader) (T := T_StreamReader) hx hb hts fw_StreamReader hown hw 0 rfl rfl 3 (by decide +kernel) (hts _ wd_185) rfl d_StreamReader_checkHead_142 ?_
      obtain ⟨sr_fault_25, sr_fp_26, hm27, hm⟩ := tp_b2_e hm
      refine tp_callv (wr := []) (WS' := [(q_sr, .inr (4, [.ref q_i, .ref q_t, .ref q_br, .int sr_at, .int sr_most, .int sr_fault_25, .int sr_fp_26])), (q_i, .inr (3, [.ref q_iB, .int i_c])), (q_iB, .inl (cB, 10000, .inl i_f)), (q_t, .inr (3, [.ref q_tB, .int t_c])), (q_tB, .inl (cB, 10000, .inl t_f)), (q_br, .inr (0, [.ref q_i, .ref q_t, .int br_at, .int br_end, .int br_tb, .long br_len, .int br_fault, .int br_fp]))]) (va_runV (As := [.int (10 : Int32), .int sr_at]) (rest := []) hF (ct_StreamReader_fail (l := l) (D := D) (cB := cB) (cI := cI) (tM := tM) (q_sr := q_sr) (q_i := q_i) (q_iB := q_iB) (q_t := q_t) (q_tB := q_tB) (q_br := q_br) (sr_at := sr_at) (sr_most := sr_most) (sr_fault := sr_fault) (sr_fp := sr_fp) (i_c := i_c) (i_f := i_f) (t_c := t_c) (t_f := t_f) (br_at := br_at) (br_end := br_end) (br_tb := br_tb) (br_len := br_len) (br_fault := br_fault) (br_fp := br_fp) (x1 := (10 : Int32)) (x2 := sr_at) (sr_fault' := sr_fault_25) (sr_fp' := sr_fp_26) hm27 _) (cwV 2 hts (tpG_V wd_190 wd_191 wd_192 wd_189 wd_188) rfl rfl rfl ⟨rfl, yd_StreamReader_fail⟩ ⟨Nat.le_of_ble_eq_true rfl, Nat.le_of_ble_eq_true rfl⟩) ⟨tp_blind, va_recv hw.1 hw.2.1 (ci := 4) (q0 := 0) rfl rfl, tp_pre hw [0, 1, 2, 3, 4, 5] rfl rfl⟩ rfl rfl hl.1 rfl (lv_room (Nat.le_of_ble_eq_true rfl)) d_StreamReader_checkHead_145 ⟨Nat.le_of_ble_eq_true rfl, Nat.le_of_ble_eq_true rfl⟩) hw [0, 1, 2, 3, 4, 5] [] [0, 1, 2, 3, 4, 5] rfl rfl rfl (by decide) rfl rfl (fun H locs hw => ?_)
      obtain ⟨rfl, rfl⟩ := tp_inj2 hm
      exact tp_vret () hx hb hr hlocks hw d_StreamReader_checkHead_148
set_option maxHeartbeats 4000000 in
set_option maxRecDepth 100000 in
theorem w_StreamReader_checkHead_83 {q_sr q_i q_iB q_t q_tB q_br : Nat} {sr_at : Int32} {sr_most : Int32} {i_c : Int32} {i_f : Nat → Int32} {t_c : Int32} {t_f : Nat → Int32} {br_at : Int32} {br_end : Int32} {br_tb : Int32} {br_len : Int64} {br_fault : Int32} {br_fp : Int32} {sr_fault' : Int32} {sr_fp' : Int32} (hF2 : tp_F p m c c_StreamReader_checkHead 5 s args tpG R_StreamReader meth none) : ∀ (x1 : Int32) (x2 : Int32) (x3 : Int32) (x4 : Int32) (sr_fault : Int32) (sr_fp : Int32) (H : Heap) (locs : List Loc) (ls : Array Slot), m_StreamReader_checkHead_83 sr_at i_c  x1 x2 x3 x4 sr_fault sr_fp = some (sr_fault', sr_fp') → tp_Wd D (tp_ty cB cI) tM A s H locs [(q_sr, .inr (4, [.ref q_i, .ref q_t, .ref q_br, .int sr_at, .int sr_most, .int sr_fault, .int sr_fp])), (q_i, .inr (3, [.ref q_iB, .int i_c])), (q_iB, .inl (cB, 10000, .inl i_f)), (q_t, .inr (3, [.ref q_tB, .int t_c])), (q_tB, .inl (cB, 10000, .inl t_f)), (q_br, .inr (0, [.ref q_i, .ref q_t, .int br_at, .int br_end, .int br_tb, .long br_len, .int br_fault, .int br_fp]))] → lv_has ls 5 [(0, .ref q_sr), (1, .int x1), (2, .int x2), (3, .int x3), (4, .int x4)] → W p l e rm_StreamReader_checkHead s m args below meth c H locs 0 0 (MQ below (tp_Qv (S := Unit) D A (fun _ => [(q_sr, .inr (4, [.ref q_i, .ref q_t, .ref q_br, .int sr_at, .int sr_most, .int sr_fault', .int sr_fp'])), (q_i, .inr (3, [.ref q_iB, .int i_c])), (q_iB, .inl (cB, 10000, .inl i_f)), (q_t, .inr (3, [.ref q_tB, .int t_c])), (q_tB, .inl (cB, 10000, .inl t_f)), (q_br, .inr (0, [.ref q_i, .ref q_t, .int br_at, .int br_end, .int br_tb, .long br_len, .int br_fault, .int br_fp]))])) args s 0 0 A) (F0 m 83 ls []) := by
  obtain ⟨hF, hr, hlocks⟩ := id hF2
  obtain ⟨hx, hb, hml, hown, hts⟩ := id hF
  intro x1 x2 x3 x4 sr_fault sr_fp H locs ls hm hw hl
  unfold m_StreamReader_checkHead_83 at hm
  refine lv_iload_n hx hb d_StreamReader_checkHead_83 rfl (lv_at hl 2 rfl) ?_
  refine lv_iload_n hx hb d_StreamReader_checkHead_84 rfl (lv_at hl 3 rfl) ?_
  refine lv_icmp_le (tgt := 104) hx hb d_StreamReader_checkHead_85 (by decide +kernel) (fun hc14 => ?_) (fun hc14 => ?_)
  · replace hm := tp_it hc14 hm
    refine lv_iload hx hb d_StreamReader_checkHead_104 (lv_at hl 4 rfl) ?_
    refine lv_if_eq (tgt := 127) hx hb d_StreamReader_checkHead_106 (by decide +kernel) (fun hc15 => ?_) (fun hc15 => ?_)
    · replace hm := tp_it hc15 hm
      exact w_StreamReader_checkHead_127 hF2  _ _ _ _ _ _ _ hm hw (lv_sub hl [0, 1, 2] rfl)
    · replace hm := tp_if hc15 hm
      refine lv_iload_n hx hb d_StreamReader_checkHead_109 rfl (lv_at hl 2 rfl) ?_
      refine lv_iconst (v := (4 : Int32)) hx hb d_StreamReader_checkHead_110 (by decide +kernel) ?_
      refine lv_icmp_ge (tgt := 127) hx hb d_StreamReader_checkHead_111 (by decide +kernel) (fun hc16 => ?_) (fun hc16 => ?_)
      · replace hm := tp_it hc16 hm
        exact w_StreamReader_checkHead_127 hF2  _ _ _ _ _ _ _ hm hw (lv_sub hl [0, 1, 2] rfl)
      · replace hm := tp_if hc16 hm
        refine lv_aload_n hx hb d_StreamReader_checkHead_114 rfl (lv_at hl 0 rfl) ?_
        refine lv_bipush (v := (10 : Int32)) hx hb d_StreamReader_checkHead_115 (by decide +kernel) ?_
        refine lv_aload_n hx hb d_StreamReader_checkHead_117 rfl (lv_at hl 0 rfl) ?_
        refine tp_get (v := .int sr_at) (C := R_StreamReader) (T := T_StreamReader) hx hb hts fw_StreamReader hown hw 0 rfl rfl 3 (by decide +kernel) (hts _ wd_185) rfl d_StreamReader_checkHead_118 ?_
        obtain ⟨sr_fault_17, sr_fp_18, hm19, hm⟩ := tp_b2_e hm
        refine tp_callv (wr := []) (WS' := [(q_sr, .inr (4, [.ref q_i, .ref q_t, .ref q_br, .int sr_at, .int sr_most, .int sr_fault_17, .int sr_fp_18])), (q_i, .inr (3, [.ref q_iB, .int i_c])), (q_iB, .inl (cB, 10000, .inl i_f)), (q_t, .inr (3, [.ref q_tB, .int t_c])), (q_tB, .inl (cB, 10000, .inl t_f)), (q_br, .inr (0, [.ref q_i, .ref q_t, .int br_at, .int br_end, .int br_tb, .long br_len, .int br_fault, .int br_fp]))]) (va_runV (As := [.int (10 : Int32), .int sr_at]) (rest := []) hF (ct_StreamReader_fail (l := l) (D := D) (cB := cB) (cI := cI) (tM := tM) (q_sr := q_sr) (q_i := q_i) (q_iB := q_iB) (q_t := q_t) (q_tB := q_tB) (q_br := q_br) (sr_at := sr_at) (sr_most := sr_most) (sr_fault := sr_fault) (sr_fp := sr_fp) (i_c := i_c) (i_f := i_f) (t_c := t_c) (t_f := t_f) (br_at := br_at) (br_end := br_end) (br_tb := br_tb) (br_len := br_len) (br_fault := br_fault) (br_fp := br_fp) (x1 := (10 : Int32)) (x2 := sr_at) (sr_fault' := sr_fault_17) (sr_fp' := sr_fp_18) hm19 _) (cwV 2 hts (tpG_V wd_190 wd_191 wd_192 wd_189 wd_188) rfl rfl rfl ⟨rfl, yd_StreamReader_fail⟩ ⟨Nat.le_of_ble_eq_true rfl, Nat.le_of_ble_eq_true rfl⟩) ⟨tp_blind, va_recv hw.1 hw.2.1 (ci := 4) (q0 := 0) rfl rfl, tp_pre hw [0, 1, 2, 3, 4, 5] rfl rfl⟩ rfl rfl hl.1 rfl (lv_room (Nat.le_of_ble_eq_true rfl)) d_StreamReader_checkHead_121 ⟨Nat.le_of_ble_eq_true rfl, Nat.le_of_ble_eq_true rfl⟩) hw [0, 1, 2, 3, 4, 5] [] [0, 1, 2, 3, 4, 5] rfl rfl rfl (by decide) rfl rfl (fun H locs hw => ?_)
        refine lv_goto (tgt := 148) hx hb d_StreamReader_checkHead_124 (by decide +kernel) ?_
        obtain ⟨rfl, rfl⟩ := tp_inj2 hm
        exact tp_vret () hx hb hr hlocks hw d_StreamReader_checkHead_148
  · replace hm := tp_if hc14 hm
    refine lv_aload_n hx hb d_StreamReader_checkHead_88 rfl (lv_at hl 0 rfl) ?_
    refine lv_bipush (v := (7 : Int32)) hx hb d_StreamReader_checkHead_89 (by decide +kernel) ?_
    refine lv_aload_n hx hb d_StreamReader_checkHead_91 rfl (lv_at hl 0 rfl) ?_
    refine tp_get (v := .ref q_i) (C := R_StreamReader) (T := T_StreamReader) hx hb hts fw_StreamReader hown hw 0 rfl rfl 0 (by decide +kernel) (hts _ wd_187) rfl d_StreamReader_checkHead_92 ?_
    refine tp_getN (v := .int i_c) (C := R_Row) (T := T_Row) hx hb hts fw_Row hown hw 1 rfl rfl 1 (by decide +kernel) nw_7 rfl d_StreamReader_checkHead_95 ?_
    obtain ⟨sr_fault_20, sr_fp_21, hm22, hm⟩ := tp_b2_e hm
    refine tp_callv (wr := []) (WS' := [(q_sr, .inr (4, [.ref q_i, .ref q_t, .ref q_br, .int sr_at, .int sr_most, .int sr_fault_20, .int sr_fp_21])), (q_i, .inr (3, [.ref q_iB, .int i_c])), (q_iB, .inl (cB, 10000, .inl i_f)), (q_t, .inr (3, [.ref q_tB, .int t_c])), (q_tB, .inl (cB, 10000, .inl t_f)), (q_br, .inr (0, [.ref q_i, .ref q_t, .int br_at, .int br_end, .int br_tb, .long br_len, .int br_fault, .int br_fp]))]) (va_runV (As := [.int (7 : Int32), .int i_c]) (rest := []) hF (ct_StreamReader_fail (l := l) (D := D) (cB := cB) (cI := cI) (tM := tM) (q_sr := q_sr) (q_i := q_i) (q_iB := q_iB) (q_t := q_t) (q_tB := q_tB) (q_br := q_br) (sr_at := sr_at) (sr_most := sr_most) (sr_fault := sr_fault) (sr_fp := sr_fp) (i_c := i_c) (i_f := i_f) (t_c := t_c) (t_f := t_f) (br_at := br_at) (br_end := br_end) (br_tb := br_tb) (br_len := br_len) (br_fault := br_fault) (br_fp := br_fp) (x1 := (7 : Int32)) (x2 := i_c) (sr_fault' := sr_fault_20) (sr_fp' := sr_fp_21) hm22 _) (cwV 2 hts (tpG_V wd_190 wd_191 wd_192 wd_189 wd_188) rfl rfl rfl ⟨rfl, yd_StreamReader_fail⟩ ⟨Nat.le_of_ble_eq_true rfl, Nat.le_of_ble_eq_true rfl⟩) ⟨tp_blind, va_recv hw.1 hw.2.1 (ci := 4) (q0 := 0) rfl rfl, tp_pre hw [0, 1, 2, 3, 4, 5] rfl rfl⟩ rfl rfl hl.1 rfl (lv_room (Nat.le_of_ble_eq_true rfl)) d_StreamReader_checkHead_98 ⟨Nat.le_of_ble_eq_true rfl, Nat.le_of_ble_eq_true rfl⟩) hw [0, 1, 2, 3, 4, 5] [] [0, 1, 2, 3, 4, 5] rfl rfl rfl (by decide) rfl rfl (fun H locs hw => ?_)
    refine lv_goto (tgt := 148) hx hb d_StreamReader_checkHead_101 (by decide +kernel) ?_
    obtain ⟨rfl, rfl⟩ := tp_inj2 hm
    exact tp_vret () hx hb hr hlocks hw d_StreamReader_checkHead_148
set_option maxHeartbeats 4000000 in
set_option maxRecDepth 100000 in
theorem w_StreamReader_checkHead_58 {q_sr q_i q_iB q_t q_tB q_br : Nat} {sr_at : Int32} {sr_most : Int32} {i_c : Int32} {i_f : Nat → Int32} {t_c : Int32} {t_f : Nat → Int32} {br_at : Int32} {br_end : Int32} {br_tb : Int32} {br_len : Int64} {br_fault : Int32} {br_fp : Int32} {sr_fault' : Int32} {sr_fp' : Int32} (hF2 : tp_F p m c c_StreamReader_checkHead 5 s args tpG R_StreamReader meth none) : ∀ (x1 : Int32) (x2 : Int32) (x3 : Int32) (x4 : Int32) (sr_fault : Int32) (sr_fp : Int32) (H : Heap) (locs : List Loc) (ls : Array Slot), m_StreamReader_checkHead_58 sr_at i_c  x1 x2 x3 x4 sr_fault sr_fp = some (sr_fault', sr_fp') → tp_Wd D (tp_ty cB cI) tM A s H locs [(q_sr, .inr (4, [.ref q_i, .ref q_t, .ref q_br, .int sr_at, .int sr_most, .int sr_fault, .int sr_fp])), (q_i, .inr (3, [.ref q_iB, .int i_c])), (q_iB, .inl (cB, 10000, .inl i_f)), (q_t, .inr (3, [.ref q_tB, .int t_c])), (q_tB, .inl (cB, 10000, .inl t_f)), (q_br, .inr (0, [.ref q_i, .ref q_t, .int br_at, .int br_end, .int br_tb, .long br_len, .int br_fault, .int br_fp]))] → lv_has ls 5 [(0, .ref q_sr), (1, .int x1), (2, .int x2), (3, .int x3), (4, .int x4)] → W p l e rm_StreamReader_checkHead s m args below meth c H locs 0 0 (MQ below (tp_Qv (S := Unit) D A (fun _ => [(q_sr, .inr (4, [.ref q_i, .ref q_t, .ref q_br, .int sr_at, .int sr_most, .int sr_fault', .int sr_fp'])), (q_i, .inr (3, [.ref q_iB, .int i_c])), (q_iB, .inl (cB, 10000, .inl i_f)), (q_t, .inr (3, [.ref q_tB, .int t_c])), (q_tB, .inl (cB, 10000, .inl t_f)), (q_br, .inr (0, [.ref q_i, .ref q_t, .int br_at, .int br_end, .int br_tb, .long br_len, .int br_fault, .int br_fp]))])) args s 0 0 A) (F0 m 58 ls []) := by
  obtain ⟨hF, hr, hlocks⟩ := id hF2
  obtain ⟨hx, hb, hml, hown, hts⟩ := id hF
  intro x1 x2 x3 x4 sr_fault sr_fp H locs ls hm hw hl
  unfold m_StreamReader_checkHead_58 at hm
  refine lv_iload hx hb d_StreamReader_checkHead_58 (lv_at hl 4 rfl) ?_
  refine lv_if_ne (tgt := 83) hx hb d_StreamReader_checkHead_60 (by decide +kernel) (fun hc9 => ?_) (fun hc9 => ?_)
  · replace hm := tp_if hc9 hm
    exact w_StreamReader_checkHead_83 hF2  _ _ _ _ _ _ _ _ _ hm hw (lv_sub hl [0, 1, 2, 3, 4] rfl)
  · replace hm := tp_it hc9 hm
    refine lv_iload_n hx hb d_StreamReader_checkHead_63 rfl (lv_at hl 1 rfl) ?_
    refine lv_sipush (v := (128 : Int32)) hx hb d_StreamReader_checkHead_64 (by decide +kernel) ?_
    refine lv_icmp_ge (tgt := 83) hx hb d_StreamReader_checkHead_67 (by decide +kernel) (fun hc10 => ?_) (fun hc10 => ?_)
    · replace hm := tp_it hc10 hm
      exact w_StreamReader_checkHead_83 hF2  _ _ _ _ _ _ _ _ _ hm hw (lv_sub hl [0, 1, 2, 3, 4] rfl)
    · replace hm := tp_if hc10 hm
      refine lv_aload_n hx hb d_StreamReader_checkHead_70 rfl (lv_at hl 0 rfl) ?_
      refine lv_bipush (v := (9 : Int32)) hx hb d_StreamReader_checkHead_71 (by decide +kernel) ?_
      refine lv_aload_n hx hb d_StreamReader_checkHead_73 rfl (lv_at hl 0 rfl) ?_
      refine tp_get (v := .int sr_at) (C := R_StreamReader) (T := T_StreamReader) hx hb hts fw_StreamReader hown hw 0 rfl rfl 3 (by decide +kernel) (hts _ wd_185) rfl d_StreamReader_checkHead_74 ?_
      obtain ⟨sr_fault_11, sr_fp_12, hm13, hm⟩ := tp_b2_e hm
      refine tp_callv (wr := []) (WS' := [(q_sr, .inr (4, [.ref q_i, .ref q_t, .ref q_br, .int sr_at, .int sr_most, .int sr_fault_11, .int sr_fp_12])), (q_i, .inr (3, [.ref q_iB, .int i_c])), (q_iB, .inl (cB, 10000, .inl i_f)), (q_t, .inr (3, [.ref q_tB, .int t_c])), (q_tB, .inl (cB, 10000, .inl t_f)), (q_br, .inr (0, [.ref q_i, .ref q_t, .int br_at, .int br_end, .int br_tb, .long br_len, .int br_fault, .int br_fp]))]) (va_runV (As := [.int (9 : Int32), .int sr_at]) (rest := []) hF (ct_StreamReader_fail (l := l) (D := D) (cB := cB) (cI := cI) (tM := tM) (q_sr := q_sr) (q_i := q_i) (q_iB := q_iB) (q_t := q_t) (q_tB := q_tB) (q_br := q_br) (sr_at := sr_at) (sr_most := sr_most) (sr_fault := sr_fault) (sr_fp := sr_fp) (i_c := i_c) (i_f := i_f) (t_c := t_c) (t_f := t_f) (br_at := br_at) (br_end := br_end) (br_tb := br_tb) (br_len := br_len) (br_fault := br_fault) (br_fp := br_fp) (x1 := (9 : Int32)) (x2 := sr_at) (sr_fault' := sr_fault_11) (sr_fp' := sr_fp_12) hm13 _) (cwV 2 hts (tpG_V wd_190 wd_191 wd_192 wd_189 wd_188) rfl rfl rfl ⟨rfl, yd_StreamReader_fail⟩ ⟨Nat.le_of_ble_eq_true rfl, Nat.le_of_ble_eq_true rfl⟩) ⟨tp_blind, va_recv hw.1 hw.2.1 (ci := 4) (q0 := 0) rfl rfl, tp_pre hw [0, 1, 2, 3, 4, 5] rfl rfl⟩ rfl rfl hl.1 rfl (lv_room (Nat.le_of_ble_eq_true rfl)) d_StreamReader_checkHead_77 ⟨Nat.le_of_ble_eq_true rfl, Nat.le_of_ble_eq_true rfl⟩) hw [0, 1, 2, 3, 4, 5] [] [0, 1, 2, 3, 4, 5] rfl rfl rfl (by decide) rfl rfl (fun H locs hw => ?_)
      refine lv_goto (tgt := 148) hx hb d_StreamReader_checkHead_80 (by decide +kernel) ?_
      obtain ⟨rfl, rfl⟩ := tp_inj2 hm
      exact tp_vret () hx hb hr hlocks hw d_StreamReader_checkHead_148
set_option maxHeartbeats 4000000 in
set_option maxRecDepth 100000 in
theorem w_StreamReader_checkHead_29 {q_sr q_i q_iB q_t q_tB q_br : Nat} {sr_at : Int32} {sr_most : Int32} {i_c : Int32} {i_f : Nat → Int32} {t_c : Int32} {t_f : Nat → Int32} {br_at : Int32} {br_end : Int32} {br_tb : Int32} {br_len : Int64} {br_fault : Int32} {br_fp : Int32} {sr_fault' : Int32} {sr_fp' : Int32} (hF2 : tp_F p m c c_StreamReader_checkHead 5 s args tpG R_StreamReader meth none) : ∀ (x1 : Int32) (x2 : Int32) (x3 : Int32) (k0 : Int32) (sr_fault : Int32) (sr_fp : Int32) (H : Heap) (locs : List Loc) (ls : Array Slot), m_StreamReader_checkHead_29 sr_at i_c  x1 x2 x3 k0 sr_fault sr_fp = some (sr_fault', sr_fp') → tp_Wd D (tp_ty cB cI) tM A s H locs [(q_sr, .inr (4, [.ref q_i, .ref q_t, .ref q_br, .int sr_at, .int sr_most, .int sr_fault, .int sr_fp])), (q_i, .inr (3, [.ref q_iB, .int i_c])), (q_iB, .inl (cB, 10000, .inl i_f)), (q_t, .inr (3, [.ref q_tB, .int t_c])), (q_tB, .inl (cB, 10000, .inl t_f)), (q_br, .inr (0, [.ref q_i, .ref q_t, .int br_at, .int br_end, .int br_tb, .long br_len, .int br_fault, .int br_fp]))] → lv_has ls 5 [(0, .ref q_sr), (1, .int x1), (2, .int x2), (3, .int x3)] → W p l e rm_StreamReader_checkHead s m args below meth c H locs 0 0 (MQ below (tp_Qv (S := Unit) D A (fun _ => [(q_sr, .inr (4, [.ref q_i, .ref q_t, .ref q_br, .int sr_at, .int sr_most, .int sr_fault', .int sr_fp'])), (q_i, .inr (3, [.ref q_iB, .int i_c])), (q_iB, .inl (cB, 10000, .inl i_f)), (q_t, .inr (3, [.ref q_tB, .int t_c])), (q_tB, .inl (cB, 10000, .inl t_f)), (q_br, .inr (0, [.ref q_i, .ref q_t, .int br_at, .int br_end, .int br_tb, .long br_len, .int br_fault, .int br_fp]))])) args s 0 0 A) (F0 m 29 ls [.int k0]) := by
  obtain ⟨hF, hr, hlocks⟩ := id hF2
  obtain ⟨hx, hb, hml, hown, hts⟩ := id hF
  intro x1 x2 x3 k0 sr_fault sr_fp H locs ls hm hw hl
  unfold m_StreamReader_checkHead_29 at hm
  refine lv_istore (lv' := [(4, .int k0), (0, .ref q_sr), (1, .int x1), (2, .int x2), (3, .int x3)]) hx hb d_StreamReader_checkHead_29 hl (by decide +kernel) rfl (fun ls hl => ?_)
  refine lv_aload_n hx hb d_StreamReader_checkHead_31 rfl (lv_at hl 1 rfl) ?_
  refine tp_get (v := .int sr_at) (C := R_StreamReader) (T := T_StreamReader) hx hb hts fw_StreamReader hown hw 0 rfl rfl 3 (by decide +kernel) (hts _ wd_185) rfl d_StreamReader_checkHead_32 ?_
  refine lv_if_ne (tgt := 58) hx hb d_StreamReader_checkHead_35 (by decide +kernel) (fun hc4 => ?_) (fun hc4 => ?_)
  · replace hm := tp_if hc4 hm
    exact w_StreamReader_checkHead_58 hF2  _ _ _ _ _ _ _ _ _ hm hw (lv_sub hl [1, 2, 3, 4, 0] rfl)
  · replace hm := tp_it hc4 hm
    refine lv_iload_n hx hb d_StreamReader_checkHead_38 rfl (lv_at hl 2 rfl) ?_
    refine lv_sipush (v := (255 : Int32)) hx hb d_StreamReader_checkHead_39 (by decide +kernel) ?_
    refine lv_icmp_eq (tgt := 58) hx hb d_StreamReader_checkHead_42 (by decide +kernel) (fun hc5 => ?_) (fun hc5 => ?_)
    · replace hm := tp_it hc5 hm
      exact w_StreamReader_checkHead_58 hF2  _ _ _ _ _ _ _ _ _ hm hw (lv_sub hl [1, 2, 3, 4, 0] rfl)
    · replace hm := tp_if hc5 hm
      refine lv_aload_n hx hb d_StreamReader_checkHead_45 rfl (lv_at hl 1 rfl) ?_
      refine lv_bipush (v := (8 : Int32)) hx hb d_StreamReader_checkHead_46 (by decide +kernel) ?_
      refine lv_aload_n hx hb d_StreamReader_checkHead_48 rfl (lv_at hl 1 rfl) ?_
      refine tp_get (v := .int sr_at) (C := R_StreamReader) (T := T_StreamReader) hx hb hts fw_StreamReader hown hw 0 rfl rfl 3 (by decide +kernel) (hts _ wd_185) rfl d_StreamReader_checkHead_49 ?_
      obtain ⟨sr_fault_6, sr_fp_7, hm8, hm⟩ := tp_b2_e hm
      refine tp_callv (wr := []) (WS' := [(q_sr, .inr (4, [.ref q_i, .ref q_t, .ref q_br, .int sr_at, .int sr_most, .int sr_fault_6, .int sr_fp_7])), (q_i, .inr (3, [.ref q_iB, .int i_c])), (q_iB, .inl (cB, 10000, .inl i_f)), (q_t, .inr (3, [.ref q_tB, .int t_c])), (q_tB, .inl (cB, 10000, .inl t_f)), (q_br, .inr (0, [.ref q_i, .ref q_t, .int br_at, .int br_end, .int br_tb, .long br_len, .int br_fault, .int br_fp]))]) (va_runV (As := [.int (8 : Int32), .int sr_at]) (rest := []) hF (ct_StreamReader_fail (l := l) (D := D) (cB := cB) (cI := cI) (tM := tM) (q_sr := q_sr) (q_i := q_i) (q_iB := q_iB) (q_t := q_t) (q_tB := q_tB) (q_br := q_br) (sr_at := sr_at) (sr_most := sr_most) (sr_fault := sr_fault) (sr_fp := sr_fp) (i_c := i_c) (i_f := i_f) (t_c := t_c) (t_f := t_f) (br_at := br_at) (br_end := br_end) (br_tb := br_tb) (br_len := br_len) (br_fault := br_fault) (br_fp := br_fp) (x1 := (8 : Int32)) (x2 := sr_at) (sr_fault' := sr_fault_6) (sr_fp' := sr_fp_7) hm8 _) (cwV 2 hts (tpG_V wd_190 wd_191 wd_192 wd_189 wd_188) rfl rfl rfl ⟨rfl, yd_StreamReader_fail⟩ ⟨Nat.le_of_ble_eq_true rfl, Nat.le_of_ble_eq_true rfl⟩) ⟨tp_blind, va_recv hw.1 hw.2.1 (ci := 4) (q0 := 0) rfl rfl, tp_pre hw [0, 1, 2, 3, 4, 5] rfl rfl⟩ rfl rfl hl.1 rfl (lv_room (Nat.le_of_ble_eq_true rfl)) d_StreamReader_checkHead_52 ⟨Nat.le_of_ble_eq_true rfl, Nat.le_of_ble_eq_true rfl⟩) hw [0, 1, 2, 3, 4, 5] [] [0, 1, 2, 3, 4, 5] rfl rfl rfl (by decide) rfl rfl (fun H locs hw => ?_)
      refine lv_goto (tgt := 148) hx hb d_StreamReader_checkHead_55 (by decide +kernel) ?_
      obtain ⟨rfl, rfl⟩ := tp_inj2 hm
      exact tp_vret () hx hb hr hlocks hw d_StreamReader_checkHead_148
set_option maxHeartbeats 4000000 in
set_option maxRecDepth 100000 in
theorem w_StreamReader_checkHead_24 {q_sr q_i q_iB q_t q_tB q_br : Nat} {sr_at : Int32} {sr_most : Int32} {i_c : Int32} {i_f : Nat → Int32} {t_c : Int32} {t_f : Nat → Int32} {br_at : Int32} {br_end : Int32} {br_tb : Int32} {br_len : Int64} {br_fault : Int32} {br_fp : Int32} {sr_fault' : Int32} {sr_fp' : Int32} (hF2 : tp_F p m c c_StreamReader_checkHead 5 s args tpG R_StreamReader meth none) : ∀ (x1 : Int32) (x2 : Int32) (x3 : Int32) (sr_fault : Int32) (sr_fp : Int32) (H : Heap) (locs : List Loc) (ls : Array Slot), m_StreamReader_checkHead_24 sr_at i_c  x1 x2 x3 sr_fault sr_fp = some (sr_fault', sr_fp') → tp_Wd D (tp_ty cB cI) tM A s H locs [(q_sr, .inr (4, [.ref q_i, .ref q_t, .ref q_br, .int sr_at, .int sr_most, .int sr_fault, .int sr_fp])), (q_i, .inr (3, [.ref q_iB, .int i_c])), (q_iB, .inl (cB, 10000, .inl i_f)), (q_t, .inr (3, [.ref q_tB, .int t_c])), (q_tB, .inl (cB, 10000, .inl t_f)), (q_br, .inr (0, [.ref q_i, .ref q_t, .int br_at, .int br_end, .int br_tb, .long br_len, .int br_fault, .int br_fp]))] → lv_has ls 5 [(0, .ref q_sr), (1, .int x1), (2, .int x2), (3, .int x3)] → W p l e rm_StreamReader_checkHead s m args below meth c H locs 0 0 (MQ below (tp_Qv (S := Unit) D A (fun _ => [(q_sr, .inr (4, [.ref q_i, .ref q_t, .ref q_br, .int sr_at, .int sr_most, .int sr_fault', .int sr_fp'])), (q_i, .inr (3, [.ref q_iB, .int i_c])), (q_iB, .inl (cB, 10000, .inl i_f)), (q_t, .inr (3, [.ref q_tB, .int t_c])), (q_tB, .inl (cB, 10000, .inl t_f)), (q_br, .inr (0, [.ref q_i, .ref q_t, .int br_at, .int br_end, .int br_tb, .long br_len, .int br_fault, .int br_fp]))])) args s 0 0 A) (F0 m 24 ls []) := by
  obtain ⟨hF, hr, hlocks⟩ := id hF2
  obtain ⟨hx, hb, hml, hown, hts⟩ := id hF
  intro x1 x2 x3 sr_fault sr_fp H locs ls hm hw hl
  unfold m_StreamReader_checkHead_24 at hm
  refine lv_iconst (v := (1 : Int32)) hx hb d_StreamReader_checkHead_24 (by decide +kernel) ?_
  refine lv_goto (tgt := 29) hx hb d_StreamReader_checkHead_25 (by decide +kernel) ?_
  exact w_StreamReader_checkHead_29 hF2  _ _ _ _ _ _ _ _ _ hm hw (lv_sub hl [0, 1, 2, 3] rfl)
set_option maxHeartbeats 4000000 in
set_option maxRecDepth 100000 in
theorem ct_StreamReader_checkHead {q_sr q_i q_iB q_t q_tB q_br : Nat} {sr_at : Int32} {sr_most : Int32} {sr_fault : Int32} {sr_fp : Int32} {i_c : Int32} {i_f : Nat → Int32} {t_c : Int32} {t_f : Nat → Int32} {br_at : Int32} {br_end : Int32} {br_tb : Int32} {br_len : Int64} {br_fault : Int32} {br_fp : Int32} {x1 : Int32} {x2 : Int32} {sr_fault' : Int32} {sr_fp' : Int32} (hm : m_StreamReader_checkHead x1 x2 sr_at sr_fault sr_fp i_c = some (sr_fault', sr_fp')) (sz : Nat) : tp_Cv l y_StreamReader_checkHead ws_StreamReader_checkHead rm_StreamReader_checkHead D (tp_ty cB cI) tM [.ref q_sr, .int x1, .int x2] [(q_sr, .inr (4, [.ref q_i, .ref q_t, .ref q_br, .int sr_at, .int sr_most, .int sr_fault, .int sr_fp])), (q_i, .inr (3, [.ref q_iB, .int i_c])), (q_iB, .inl (cB, 10000, .inl i_f)), (q_t, .inr (3, [.ref q_tB, .int t_c])), (q_tB, .inl (cB, 10000, .inl t_f)), (q_br, .inr (0, [.ref q_i, .ref q_t, .int br_at, .int br_end, .int br_tb, .long br_len, .int br_fault, .int br_fp]))] sz [(q_sr, .inr (4, [.ref q_i, .ref q_t, .ref q_br, .int sr_at, .int sr_most, .int sr_fault', .int sr_fp'])), (q_i, .inr (3, [.ref q_iB, .int i_c])), (q_iB, .inl (cB, 10000, .inl i_f)), (q_t, .inr (3, [.ref q_tB, .int t_c])), (q_tB, .inl (cB, 10000, .inl t_f)), (q_br, .inr (0, [.ref q_i, .ref q_t, .int br_at, .int br_end, .int br_tb, .long br_len, .int br_fault, .int br_fp]))] := by
  refine Met.ofW (cc := c_StreamReader_checkHead) (maxL := 5) (ret := none) (by decide) rfl ?_
  intro p e s m args below meth c s₁ B hml hv
  obtain ⟨rfl, hv⟩ := hv
  have hw := tp_entry hv
  generalize va_A [(q_sr, .inr (4, [.ref q_i, .ref q_t, .ref q_br, .int sr_at, .int sr_most, .int sr_fault, .int sr_fp])), (q_i, .inr (3, [.ref q_iB, .int i_c])), (q_iB, .inl (cB, 10000, .inl i_f)), (q_t, .inr (3, [.ref q_tB, .int t_c])), (q_tB, .inl (cB, 10000, .inl t_f)), (q_br, .inr (0, [.ref q_i, .ref q_t, .int br_at, .int br_end, .int br_tb, .long br_len, .int br_fault, .int br_fp]))] sz = A at hw ⊢
  have hx := B.exec
  have hb := B.bytes
  have hr := B.returns
  have hts0 := atoms_spec (ws := ws_StreamReader_checkHead) B.pre
  have hts := fun w h => hts0 w (List.mem_cons_of_mem _ h)
  have hown : s.vm.findClass R_StreamReader = some m.cls := findClass_of_methodNamed B.named
  have hlocks := B.notSynchronized
  have hF : CallFix p m c c_StreamReader_checkHead 5 s _ tpG R_StreamReader := ⟨hx, hb, hml, hown, hts⟩
  have hF2 : tp_F p m c c_StreamReader_checkHead 5 s _ tpG R_StreamReader meth none := ⟨hF, hr, hlocks⟩
  have hl := lv_entry ([.ref q_sr, .int x1, .int x2]) (n := 5) (Nat.le_of_ble_eq_true rfl)
  rw [lg_entry_eq]
  generalize (lg_sl ([.ref q_sr, .int x1, .int x2]) ++ List.replicate (5 - (lg_sl ([.ref q_sr, .int x1, .int x2])).length) Slot.unset).toArray = ls at hl ⊢
  replace hl : lv_has ls 5 [(0, .ref q_sr), (1, .int x1), (2, .int x2)] := hl
  unfold m_StreamReader_checkHead at hm
  refine lv_aload_n hx hb d_StreamReader_checkHead_0 rfl (lv_at hl 0 rfl) ?_
  refine tp_get (v := .ref q_i) (C := R_StreamReader) (T := T_StreamReader) hx hb hts fw_StreamReader hown hw 0 rfl rfl 0 (by decide +kernel) (hts _ wd_187) rfl d_StreamReader_checkHead_1 ?_
  refine tp_getN (v := .int i_c) (C := R_Row) (T := T_Row) hx hb hts fw_Row hown hw 1 rfl rfl 1 (by decide +kernel) nw_7 rfl d_StreamReader_checkHead_4 ?_
  refine lv_aload_n hx hb d_StreamReader_checkHead_7 rfl (lv_at hl 0 rfl) ?_
  refine tp_get (v := .int sr_at) (C := R_StreamReader) (T := T_StreamReader) hx hb hts fw_StreamReader hown hw 0 rfl rfl 3 (by decide +kernel) (hts _ wd_185) rfl d_StreamReader_checkHead_8 ?_
  refine lv_isub hx hb d_StreamReader_checkHead_11 ?_
  refine lv_iconst (v := (4 : Int32)) hx hb d_StreamReader_checkHead_12 (by decide +kernel) ?_
  refine lv_isub hx hb d_StreamReader_checkHead_13 ?_
  obtain ⟨y1, ey1, hm⟩ := tp_b0_e hm
  refine tp_topi ey1 ?_
  refine lv_istore_n (lv' := [(3, .int y1), (0, .ref q_sr), (1, .int x1), (2, .int x2)]) hx hb d_StreamReader_checkHead_14 rfl hl (by decide +kernel) rfl (fun ls hl => ?_)
  refine lv_iload_n hx hb d_StreamReader_checkHead_15 rfl (lv_at hl 2 rfl) ?_
  refine lv_if_eq (tgt := 24) hx hb d_StreamReader_checkHead_16 (by decide +kernel) (fun hc2 => ?_) (fun hc2 => ?_)
  · replace hm := tp_it hc2 hm
    exact w_StreamReader_checkHead_24 hF2  _ _ _ _ _ _ _ _ hm hw (lv_sub hl [1, 2, 3, 0] rfl)
  · replace hm := tp_if hc2 hm
    refine lv_iload_n hx hb d_StreamReader_checkHead_19 rfl (lv_at hl 2 rfl) ?_
    refine lv_iconst (v := (1 : Int32)) hx hb d_StreamReader_checkHead_20 (by decide +kernel) ?_
    refine lv_icmp_ne (tgt := 28) hx hb d_StreamReader_checkHead_21 (by decide +kernel) (fun hc3 => ?_) (fun hc3 => ?_)
    · replace hm := tp_if hc3 hm
      refine lv_iconst (v := (0 : Int32)) hx hb d_StreamReader_checkHead_28 (by decide +kernel) ?_
      exact w_StreamReader_checkHead_29 hF2  _ _ _ _ _ _ _ _ _ hm hw (lv_sub hl [1, 2, 3, 0] rfl)
    · replace hm := tp_it hc3 hm
      exact w_StreamReader_checkHead_24 hF2  _ _ _ _ _ _ _ _ hm hw (lv_sub hl [1, 2, 3, 0] rfl)
end
abbrev rm_StreamReader_checkMark : Room := { frames := 1, cells := 0, slots := 0, locals := 22 }
abbrev ws_StreamReader_checkMark : List Cond := .code y_StreamReader_checkMark c_StreamReader_checkMark 5 none :: tpG
noncomputable def m_StreamReader_checkMark_19 (N : Nat) (sr_at : Int32) (i_c : Int32) (i_f : Nat → Int32) (rec19 : Int32 → Int32 → Int32 → Int32 → Int32 → Option (Int32 × Int32)) (x1 : Int32) (x3 : Int32) (x4 : Int32) (sr_fault : Int32) (sr_fp : Int32) : Option (Int32 × Int32) :=
  if x3 = 0 then
    if x3 = 0 then
      tp_b2 (m_StreamReader_fail (8 : Int32) sr_at sr_fault sr_fp) fun sr_fault_4 sr_fp_5 =>
      some (sr_fault_4, sr_fp_5)
    else
      some (sr_fault, sr_fp)
  else
    if (6 : Int32) ≤ x4 then
      if x3 = 0 then
        tp_b2 (m_StreamReader_fail (8 : Int32) sr_at sr_fault sr_fp) fun sr_fault_9 sr_fp_10 =>
        some (sr_fault_9, sr_fp_10)
      else
        some (sr_fault, sr_fp)
    else
      tp_b1 (m_Row_at (x1 + x4) i_c i_f) fun r12 =>
      tp_gd (tp_inb x4 6) <|
      if r12 = (tp_mark (Int32.toNatClampNeg x4)) then
        rec19 x1 (1 : Int32) (x4 + (1 : Int32)) sr_fault sr_fp
      else
        rec19 x1 (0 : Int32) (x4 + (1 : Int32)) sr_fault sr_fp
noncomputable def m_StreamReader_checkMark (N : Nat) (x1 : Int32) (x2 : Int32) (sr_at : Int32) (sr_fault : Int32) (sr_fp : Int32) (i_c : Int32) (i_f : Nat → Int32) : Option (Int32 × Int32) :=
  if (x2 - x1) = (6 : Int32) then
    tp_it5 (m_StreamReader_checkMark_19 N sr_at i_c i_f ) N x1 (1 : Int32) (0 : Int32) sr_fault sr_fp
  else
    tp_it5 (m_StreamReader_checkMark_19 N sr_at i_c i_f ) N x1 (0 : Int32) (0 : Int32) sr_fault sr_fp
section
variable {p : Program} {l : Launch} {e : Env} {s : State} {m : MethodId} {args : Array Value} {below : List Frame} {meth : Method} {c : Code} {A : Nat → Prop} {D : va_G} {cB cI : ClassId} {tM : Nat}
set_option maxHeartbeats 4000000 in
set_option maxRecDepth 100000 in
theorem w_StreamReader_checkMark_19 {q_sr q_i q_iB q_t q_tB q_br : Nat} {sr_at : Int32} {sr_most : Int32} {i_c : Int32} {i_f : Nat → Int32} {t_c : Int32} {t_f : Nat → Int32} {br_at : Int32} {br_end : Int32} {br_tb : Int32} {br_len : Int64} {br_fault : Int32} {br_fp : Int32} {N : Nat} {sr_fault' : Int32} {sr_fp' : Int32} (hF2 : tp_F p m c c_StreamReader_checkMark 5 s args tpG R_StreamReader meth none) : ∀ (n : Nat), ∀ (x1 : Int32) (x3 : Int32) (x4 : Int32) (sr_fault : Int32) (sr_fp : Int32) (H : Heap) (locs : List Loc) (ls : Array Slot), tp_it5 (m_StreamReader_checkMark_19 N sr_at i_c i_f ) n x1 x3 x4 sr_fault sr_fp = some (sr_fault', sr_fp') → tp_Wd D (tp_ty cB cI) tM A s H locs [(q_sr, .inr (4, [.ref q_i, .ref q_t, .ref q_br, .int sr_at, .int sr_most, .int sr_fault, .int sr_fp])), (q_i, .inr (3, [.ref q_iB, .int i_c])), (q_iB, .inl (cB, 10000, .inl i_f)), (q_t, .inr (3, [.ref q_tB, .int t_c])), (q_tB, .inl (cB, 10000, .inl t_f)), (q_br, .inr (0, [.ref q_i, .ref q_t, .int br_at, .int br_end, .int br_tb, .long br_len, .int br_fault, .int br_fp]))] → lv_has ls 5 [(0, .ref q_sr), (1, .int x1), (3, .int x3), (4, .int x4)] → W p l e rm_StreamReader_checkMark s m args below meth c H locs 0 0 (MQ below (tp_Qv (S := Unit) D A (fun _ => [(q_sr, .inr (4, [.ref q_i, .ref q_t, .ref q_br, .int sr_at, .int sr_most, .int sr_fault', .int sr_fp'])), (q_i, .inr (3, [.ref q_iB, .int i_c])), (q_iB, .inl (cB, 10000, .inl i_f)), (q_t, .inr (3, [.ref q_tB, .int t_c])), (q_tB, .inl (cB, 10000, .inl t_f)), (q_br, .inr (0, [.ref q_i, .ref q_t, .int br_at, .int br_end, .int br_tb, .long br_len, .int br_fault, .int br_fp]))])) args s 0 0 A) (F0 m 19 ls []) := by
  obtain ⟨hF, hr, hlocks⟩ := id hF2
  obtain ⟨hx, hb, hml, hown, hts⟩ := id hF
  intro n
  induction n with
  | zero => intro x1 x3 x4 sr_fault sr_fp H locs ls hm; exact absurd hm (by simp [tp_it5])
  | succ n ih19 =>
    intro x1 x3 x4 sr_fault sr_fp H locs ls hm hw hl
    replace hm : m_StreamReader_checkMark_19 N sr_at i_c i_f  (tp_it5 (m_StreamReader_checkMark_19 N sr_at i_c i_f ) n) x1 x3 x4 sr_fault sr_fp = some (sr_fault', sr_fp') := hm
    unfold m_StreamReader_checkMark_19 at hm
    refine lv_iload_n hx hb d_StreamReader_checkMark_19 rfl (lv_at hl 2 rfl) ?_
    refine lv_if_eq (tgt := 64) hx hb d_StreamReader_checkMark_20 (by decide +kernel) (fun hc2 => ?_) (fun hc2 => ?_)
    · replace hm := tp_it hc2 hm
      refine lv_iload_n hx hb d_StreamReader_checkMark_64 rfl (lv_at hl 2 rfl) ?_
      refine lv_if_ne (tgt := 78) hx hb d_StreamReader_checkMark_65 (by decide +kernel) (fun hc3 => ?_) (fun hc3 => ?_)
      · replace hm := tp_if hc3 hm
        obtain ⟨rfl, rfl⟩ := tp_inj2 hm
        exact tp_vret () hx hb hr hlocks hw d_StreamReader_checkMark_78
      · replace hm := tp_it hc3 hm
        refine lv_aload_n hx hb d_StreamReader_checkMark_68 rfl (lv_at hl 0 rfl) ?_
        refine lv_bipush (v := (8 : Int32)) hx hb d_StreamReader_checkMark_69 (by decide +kernel) ?_
        refine lv_aload_n hx hb d_StreamReader_checkMark_71 rfl (lv_at hl 0 rfl) ?_
        refine tp_get (v := .int sr_at) (C := R_StreamReader) (T := T_StreamReader) hx hb hts fw_StreamReader hown hw 0 rfl rfl 3 (by decide +kernel) (hts _ wd_185) rfl d_StreamReader_checkMark_72 ?_
        obtain ⟨sr_fault_4, sr_fp_5, hm6, hm⟩ := tp_b2_e hm
        refine tp_callv (wr := []) (WS' := [(q_sr, .inr (4, [.ref q_i, .ref q_t, .ref q_br, .int sr_at, .int sr_most, .int sr_fault_4, .int sr_fp_5])), (q_i, .inr (3, [.ref q_iB, .int i_c])), (q_iB, .inl (cB, 10000, .inl i_f)), (q_t, .inr (3, [.ref q_tB, .int t_c])), (q_tB, .inl (cB, 10000, .inl t_f)), (q_br, .inr (0, [.ref q_i, .ref q_t, .int br_at, .int br_end, .int br_tb, .long br_len, .int br_fault, .int br_fp]))]) (va_runV (As := [.int (8 : Int32), .int sr_at]) (rest := []) hF (ct_StreamReader_fail (l := l) (D := D) (cB := cB) (cI := cI) (tM := tM) (q_sr := q_sr) (q_i := q_i) (q_iB := q_iB) (q_t := q_t) (q_tB := q_tB) (q_br := q_br) (sr_at := sr_at) (sr_most := sr_most) (sr_fault := sr_fault) (sr_fp := sr_fp) (i_c := i_c) (i_f := i_f) (t_c := t_c) (t_f := t_f) (br_at := br_at) (br_end := br_end) (br_tb := br_tb) (br_len := br_len) (br_fault := br_fault) (br_fp := br_fp) (x1 := (8 : Int32)) (x2 := sr_at) (sr_fault' := sr_fault_4) (sr_fp' := sr_fp_5) hm6 _) (cwV 2 hts (tpG_V wd_190 wd_191 wd_192 wd_189 wd_188) rfl rfl rfl ⟨rfl, yd_StreamReader_fail⟩ ⟨Nat.le_of_ble_eq_true rfl, Nat.le_of_ble_eq_true rfl⟩) ⟨tp_blind, va_recv hw.1 hw.2.1 (ci := 4) (q0 := 0) rfl rfl, tp_pre hw [0, 1, 2, 3, 4, 5] rfl rfl⟩ rfl rfl hl.1 rfl (lv_room (Nat.le_of_ble_eq_true rfl)) d_StreamReader_checkMark_75 ⟨Nat.le_of_ble_eq_true rfl, Nat.le_of_ble_eq_true rfl⟩) hw [0, 1, 2, 3, 4, 5] [] [0, 1, 2, 3, 4, 5] rfl rfl rfl (by decide) rfl rfl (fun H locs hw => ?_)
        obtain ⟨rfl, rfl⟩ := tp_inj2 hm
        exact tp_vret () hx hb hr hlocks hw d_StreamReader_checkMark_78
    · replace hm := tp_if hc2 hm
      refine lv_iload hx hb d_StreamReader_checkMark_23 (lv_at hl 3 rfl) ?_
      refine va_getsN (C := "TagPress$Chunk") (n := "MARK") (d := "[I") hx hb hw.2.2.2.2.2.2.1 hw.2.2.2.1 hown (va_Nw.use rfl (hw.2.2.2.2.1 _ nw_8)) (fun _ h => h) d_StreamReader_checkMark_25 ?_
      refine va_tlen (v := (6 : Int32)) hx hb hw.2.2.2.2.2.2.2 hw.2.2.2.1 rfl d_StreamReader_checkMark_28 ?_
      refine lv_icmp_ge (tgt := 64) hx hb d_StreamReader_checkMark_29 (by decide +kernel) (fun hc7 => ?_) (fun hc7 => ?_)
      · replace hm := tp_it hc7 hm
        refine lv_iload_n hx hb d_StreamReader_checkMark_64 rfl (lv_at hl 2 rfl) ?_
        refine lv_if_ne (tgt := 78) hx hb d_StreamReader_checkMark_65 (by decide +kernel) (fun hc8 => ?_) (fun hc8 => ?_)
        · replace hm := tp_if hc8 hm
          obtain ⟨rfl, rfl⟩ := tp_inj2 hm
          exact tp_vret () hx hb hr hlocks hw d_StreamReader_checkMark_78
        · replace hm := tp_it hc8 hm
          refine lv_aload_n hx hb d_StreamReader_checkMark_68 rfl (lv_at hl 0 rfl) ?_
          refine lv_bipush (v := (8 : Int32)) hx hb d_StreamReader_checkMark_69 (by decide +kernel) ?_
          refine lv_aload_n hx hb d_StreamReader_checkMark_71 rfl (lv_at hl 0 rfl) ?_
          refine tp_get (v := .int sr_at) (C := R_StreamReader) (T := T_StreamReader) hx hb hts fw_StreamReader hown hw 0 rfl rfl 3 (by decide +kernel) (hts _ wd_185) rfl d_StreamReader_checkMark_72 ?_
          obtain ⟨sr_fault_9, sr_fp_10, hm11, hm⟩ := tp_b2_e hm
          refine tp_callv (wr := []) (WS' := [(q_sr, .inr (4, [.ref q_i, .ref q_t, .ref q_br, .int sr_at, .int sr_most, .int sr_fault_9, .int sr_fp_10])), (q_i, .inr (3, [.ref q_iB, .int i_c])), (q_iB, .inl (cB, 10000, .inl i_f)), (q_t, .inr (3, [.ref q_tB, .int t_c])), (q_tB, .inl (cB, 10000, .inl t_f)), (q_br, .inr (0, [.ref q_i, .ref q_t, .int br_at, .int br_end, .int br_tb, .long br_len, .int br_fault, .int br_fp]))]) (va_runV (As := [.int (8 : Int32), .int sr_at]) (rest := []) hF (ct_StreamReader_fail (l := l) (D := D) (cB := cB) (cI := cI) (tM := tM) (q_sr := q_sr) (q_i := q_i) (q_iB := q_iB) (q_t := q_t) (q_tB := q_tB) (q_br := q_br) (sr_at := sr_at) (sr_most := sr_most) (sr_fault := sr_fault) (sr_fp := sr_fp) (i_c := i_c) (i_f := i_f) (t_c := t_c) (t_f := t_f) (br_at := br_at) (br_end := br_end) (br_tb := br_tb) (br_len := br_len) (br_fault := br_fault) (br_fp := br_fp) (x1 := (8 : Int32)) (x2 := sr_at) (sr_fault' := sr_fault_9) (sr_fp' := sr_fp_10) hm11 _) (cwV 2 hts (tpG_V wd_190 wd_191 wd_192 wd_189 wd_188) rfl rfl rfl ⟨rfl, yd_StreamReader_fail⟩ ⟨Nat.le_of_ble_eq_true rfl, Nat.le_of_ble_eq_true rfl⟩) ⟨tp_blind, va_recv hw.1 hw.2.1 (ci := 4) (q0 := 0) rfl rfl, tp_pre hw [0, 1, 2, 3, 4, 5] rfl rfl⟩ rfl rfl hl.1 rfl (lv_room (Nat.le_of_ble_eq_true rfl)) d_StreamReader_checkMark_75 ⟨Nat.le_of_ble_eq_true rfl, Nat.le_of_ble_eq_true rfl⟩) hw [0, 1, 2, 3, 4, 5] [] [0, 1, 2, 3, 4, 5] rfl rfl rfl (by decide) rfl rfl (fun H locs hw => ?_)
          obtain ⟨rfl, rfl⟩ := tp_inj2 hm
          exact tp_vret () hx hb hr hlocks hw d_StreamReader_checkMark_78
      · replace hm := tp_if hc7 hm
        refine lv_aload_n hx hb d_StreamReader_checkMark_32 rfl (lv_at hl 0 rfl) ?_
        refine tp_get (v := .ref q_i) (C := R_StreamReader) (T := T_StreamReader) hx hb hts fw_StreamReader hown hw 0 rfl rfl 0 (by decide +kernel) (hts _ wd_187) rfl d_StreamReader_checkMark_33 ?_
        refine lv_iload_n hx hb d_StreamReader_checkMark_36 rfl (lv_at hl 1 rfl) ?_
        refine lv_iload hx hb d_StreamReader_checkMark_37 (lv_at hl 3 rfl) ?_
        refine lv_iadd hx hb d_StreamReader_checkMark_39 ?_
        obtain ⟨r12, hm13, hm⟩ := tp_b1_e hm
        refine tp_calli (wr := [(q_sr, .inr (4, [.ref q_i, .ref q_t, .ref q_br, .int sr_at, .int sr_most, .int sr_fault, .int sr_fp])), (q_t, .inr (3, [.ref q_tB, .int t_c])), (q_tB, .inl (cB, 10000, .inl t_f)), (q_br, .inr (0, [.ref q_i, .ref q_t, .int br_at, .int br_end, .int br_tb, .long br_len, .int br_fault, .int br_fp]))]) (WS' := [(q_sr, .inr (4, [.ref q_i, .ref q_t, .ref q_br, .int sr_at, .int sr_most, .int sr_fault, .int sr_fp])), (q_i, .inr (3, [.ref q_iB, .int i_c])), (q_iB, .inl (cB, 10000, .inl i_f)), (q_t, .inr (3, [.ref q_tB, .int t_c])), (q_tB, .inl (cB, 10000, .inl t_f)), (q_br, .inr (0, [.ref q_i, .ref q_t, .int br_at, .int br_end, .int br_tb, .long br_len, .int br_fault, .int br_fp]))]) (va_runV (As := [.int (x1 + x4)]) (rest := []) hF (ct_Row_at (l := l) (D := D) (cB := cB) (cI := cI) (tM := tM) (q_a := q_i) (q_aB := q_iB) (a_c := i_c) (a_f := i_f) (x1 := (x1 + x4)) (r := r12) hm13 _) (cwV 1 hts (tpG_V wd_194 wd_13 wd_14 wd_3 wd_11) rfl rfl rfl ⟨rfl, yd_Row_at⟩ ⟨Nat.le_of_ble_eq_true rfl, Nat.le_of_ble_eq_true rfl⟩) ⟨tp_blind, va_recv hw.1 hw.2.1 (ci := 3) (q0 := 1) rfl rfl, tp_pre hw [1, 2] rfl rfl⟩ rfl rfl hl.1 rfl (lv_room (Nat.le_of_ble_eq_true rfl)) d_StreamReader_checkMark_40 ⟨Nat.le_of_ble_eq_true rfl, Nat.le_of_ble_eq_true rfl⟩) hw [1, 2] [0, 3, 4, 5] [0, 4, 5, 1, 2, 3] rfl rfl rfl (by decide) rfl rfl (fun H locs hw => ?_)
        refine va_getsN (C := "TagPress$Chunk") (n := "MARK") (d := "[I") hx hb hw.2.2.2.2.2.2.1 hw.2.2.2.1 hown (va_Nw.use rfl (hw.2.2.2.2.1 _ nw_8)) (fun _ h => h) d_StreamReader_checkMark_43 ?_
        refine lv_iload hx hb d_StreamReader_checkMark_46 (lv_at hl 3 rfl) ?_
        obtain ⟨hi14, hm⟩ := tp_gd_e hm
        refine va_ti (v := .int (tp_mark (Int32.toNatClampNeg x4))) hx hb hw.2.2.2.2.2.2.2 hw.2.2.2.1 (tp_inb_v hi14) rfl d_StreamReader_checkMark_48 ?_
        refine lv_icmp_ne (tgt := 56) hx hb d_StreamReader_checkMark_49 (by decide +kernel) (fun hc15 => ?_) (fun hc15 => ?_)
        · replace hm := tp_if hc15 hm
          refine lv_iconst (v := (0 : Int32)) hx hb d_StreamReader_checkMark_56 (by decide +kernel) ?_
          refine lv_istore_n (lv' := [(3, .int (0 : Int32)), (0, .ref q_sr), (1, .int x1), (4, .int x4)]) hx hb d_StreamReader_checkMark_57 rfl hl (by decide +kernel) rfl (fun ls hl => ?_)
          refine lv_iinc (v := (x4 + (1 : Int32))) (lv' := [(4, .int (x4 + (1 : Int32))), (3, .int (0 : Int32)), (0, .ref q_sr), (1, .int x1)]) hx hb d_StreamReader_checkMark_58 hl (k := 3) rfl rfl (by decide +kernel) rfl (fun ls hl => ?_)
          refine lv_goto (tgt := 19) hx hb d_StreamReader_checkMark_61 (by decide +kernel) ?_
          exact ih19 _ _ _ _ _ _ _ _ hm hw (lv_sub hl [2, 3, 1, 0] rfl)
        · replace hm := tp_it hc15 hm
          refine lv_iconst (v := (1 : Int32)) hx hb d_StreamReader_checkMark_52 (by decide +kernel) ?_
          refine lv_goto (tgt := 57) hx hb d_StreamReader_checkMark_53 (by decide +kernel) ?_
          refine lv_istore_n (lv' := [(3, .int (1 : Int32)), (0, .ref q_sr), (1, .int x1), (4, .int x4)]) hx hb d_StreamReader_checkMark_57 rfl hl (by decide +kernel) rfl (fun ls hl => ?_)
          refine lv_iinc (v := (x4 + (1 : Int32))) (lv' := [(4, .int (x4 + (1 : Int32))), (3, .int (1 : Int32)), (0, .ref q_sr), (1, .int x1)]) hx hb d_StreamReader_checkMark_58 hl (k := 3) rfl rfl (by decide +kernel) rfl (fun ls hl => ?_)
          refine lv_goto (tgt := 19) hx hb d_StreamReader_checkMark_61 (by decide +kernel) ?_
          exact ih19 _ _ _ _ _ _ _ _ hm hw (lv_sub hl [2, 3, 1, 0] rfl)
set_option maxHeartbeats 4000000 in
set_option maxRecDepth 100000 in
theorem ct_StreamReader_checkMark {q_sr q_i q_iB q_t q_tB q_br : Nat} {sr_at : Int32} {sr_most : Int32} {sr_fault : Int32} {sr_fp : Int32} {i_c : Int32} {i_f : Nat → Int32} {t_c : Int32} {t_f : Nat → Int32} {br_at : Int32} {br_end : Int32} {br_tb : Int32} {br_len : Int64} {br_fault : Int32} {br_fp : Int32} {N : Nat} {x1 : Int32} {x2 : Int32} {sr_fault' : Int32} {sr_fp' : Int32} (hm : m_StreamReader_checkMark N x1 x2 sr_at sr_fault sr_fp i_c i_f = some (sr_fault', sr_fp')) (sz : Nat) : tp_Cv l y_StreamReader_checkMark ws_StreamReader_checkMark rm_StreamReader_checkMark D (tp_ty cB cI) tM [.ref q_sr, .int x1, .int x2] [(q_sr, .inr (4, [.ref q_i, .ref q_t, .ref q_br, .int sr_at, .int sr_most, .int sr_fault, .int sr_fp])), (q_i, .inr (3, [.ref q_iB, .int i_c])), (q_iB, .inl (cB, 10000, .inl i_f)), (q_t, .inr (3, [.ref q_tB, .int t_c])), (q_tB, .inl (cB, 10000, .inl t_f)), (q_br, .inr (0, [.ref q_i, .ref q_t, .int br_at, .int br_end, .int br_tb, .long br_len, .int br_fault, .int br_fp]))] sz [(q_sr, .inr (4, [.ref q_i, .ref q_t, .ref q_br, .int sr_at, .int sr_most, .int sr_fault', .int sr_fp'])), (q_i, .inr (3, [.ref q_iB, .int i_c])), (q_iB, .inl (cB, 10000, .inl i_f)), (q_t, .inr (3, [.ref q_tB, .int t_c])), (q_tB, .inl (cB, 10000, .inl t_f)), (q_br, .inr (0, [.ref q_i, .ref q_t, .int br_at, .int br_end, .int br_tb, .long br_len, .int br_fault, .int br_fp]))] := by
  refine Met.ofW (cc := c_StreamReader_checkMark) (maxL := 5) (ret := none) (by decide) rfl ?_
  intro p e s m args below meth c s₁ B hml hv
  obtain ⟨rfl, hv⟩ := hv
  have hw := tp_entry hv
  generalize va_A [(q_sr, .inr (4, [.ref q_i, .ref q_t, .ref q_br, .int sr_at, .int sr_most, .int sr_fault, .int sr_fp])), (q_i, .inr (3, [.ref q_iB, .int i_c])), (q_iB, .inl (cB, 10000, .inl i_f)), (q_t, .inr (3, [.ref q_tB, .int t_c])), (q_tB, .inl (cB, 10000, .inl t_f)), (q_br, .inr (0, [.ref q_i, .ref q_t, .int br_at, .int br_end, .int br_tb, .long br_len, .int br_fault, .int br_fp]))] sz = A at hw ⊢
  have hx := B.exec
  have hb := B.bytes
  have hr := B.returns
  have hts0 := atoms_spec (ws := ws_StreamReader_checkMark) B.pre
  have hts := fun w h => hts0 w (List.mem_cons_of_mem _ h)
  have hown : s.vm.findClass R_StreamReader = some m.cls := findClass_of_methodNamed B.named
  have hlocks := B.notSynchronized
  have hF : CallFix p m c c_StreamReader_checkMark 5 s _ tpG R_StreamReader := ⟨hx, hb, hml, hown, hts⟩
  have hF2 : tp_F p m c c_StreamReader_checkMark 5 s _ tpG R_StreamReader meth none := ⟨hF, hr, hlocks⟩
  have hl := lv_entry ([.ref q_sr, .int x1, .int x2]) (n := 5) (Nat.le_of_ble_eq_true rfl)
  rw [lg_entry_eq]
  generalize (lg_sl ([.ref q_sr, .int x1, .int x2]) ++ List.replicate (5 - (lg_sl ([.ref q_sr, .int x1, .int x2])).length) Slot.unset).toArray = ls at hl ⊢
  replace hl : lv_has ls 5 [(0, .ref q_sr), (1, .int x1), (2, .int x2)] := hl
  unfold m_StreamReader_checkMark at hm
  refine lv_iload_n hx hb d_StreamReader_checkMark_0 rfl (lv_at hl 2 rfl) ?_
  refine lv_iload_n hx hb d_StreamReader_checkMark_1 rfl (lv_at hl 1 rfl) ?_
  refine lv_isub hx hb d_StreamReader_checkMark_2 ?_
  refine va_getsN (C := "TagPress$Chunk") (n := "MARK") (d := "[I") hx hb hw.2.2.2.2.2.2.1 hw.2.2.2.1 hown (va_Nw.use rfl (hw.2.2.2.2.1 _ nw_8)) (fun _ h => h) d_StreamReader_checkMark_3 ?_
  refine va_tlen (v := (6 : Int32)) hx hb hw.2.2.2.2.2.2.2 hw.2.2.2.1 rfl d_StreamReader_checkMark_6 ?_
  refine lv_icmp_ne (tgt := 14) hx hb d_StreamReader_checkMark_7 (by decide +kernel) (fun hc1 => ?_) (fun hc1 => ?_)
  · replace hm := tp_if hc1 hm
    refine lv_iconst (v := (0 : Int32)) hx hb d_StreamReader_checkMark_14 (by decide +kernel) ?_
    refine lv_istore_n (lv' := [(3, .int (0 : Int32)), (0, .ref q_sr), (1, .int x1), (2, .int x2)]) hx hb d_StreamReader_checkMark_15 rfl hl (by decide +kernel) rfl (fun ls hl => ?_)
    refine lv_iconst (v := (0 : Int32)) hx hb d_StreamReader_checkMark_16 (by decide +kernel) ?_
    refine lv_istore (lv' := [(4, .int (0 : Int32)), (3, .int (0 : Int32)), (0, .ref q_sr), (1, .int x1), (2, .int x2)]) hx hb d_StreamReader_checkMark_17 hl (by decide +kernel) rfl (fun ls hl => ?_)
    exact w_StreamReader_checkMark_19 hF2  N _ _ _ _ _ _ _ _ hm hw (lv_sub hl [2, 3, 1, 0] rfl)
  · replace hm := tp_it hc1 hm
    refine lv_iconst (v := (1 : Int32)) hx hb d_StreamReader_checkMark_10 (by decide +kernel) ?_
    refine lv_goto (tgt := 15) hx hb d_StreamReader_checkMark_11 (by decide +kernel) ?_
    refine lv_istore_n (lv' := [(3, .int (1 : Int32)), (0, .ref q_sr), (1, .int x1), (2, .int x2)]) hx hb d_StreamReader_checkMark_15 rfl hl (by decide +kernel) rfl (fun ls hl => ?_)
    refine lv_iconst (v := (0 : Int32)) hx hb d_StreamReader_checkMark_16 (by decide +kernel) ?_
    refine lv_istore (lv' := [(4, .int (0 : Int32)), (3, .int (1 : Int32)), (0, .ref q_sr), (1, .int x1), (2, .int x2)]) hx hb d_StreamReader_checkMark_17 hl (by decide +kernel) rfl (fun ls hl => ?_)
    exact w_StreamReader_checkMark_19 hF2  N _ _ _ _ _ _ _ _ hm hw (lv_sub hl [2, 3, 1, 0] rfl)
end
abbrev rm_StreamReader_takeFaultOfBlock : Room := { frames := 1, cells := 0, slots := 0, locals := 22 }
abbrev ws_StreamReader_takeFaultOfBlock : List Cond := .code y_StreamReader_takeFaultOfBlock c_StreamReader_takeFaultOfBlock 1 none :: tpG
noncomputable def m_StreamReader_takeFaultOfBlock (sr_fault : Int32) (sr_fp : Int32) (br_fault : Int32) (br_fp : Int32) : Option (Int32 × Int32) :=
  if br_fault = 0 then
    some (sr_fault, sr_fp)
  else
    if br_fault = (1 : Int32) then
      tp_b2 (m_StreamReader_fail (12 : Int32) br_fp sr_fault sr_fp) fun sr_fault_6 sr_fp_7 =>
      some (sr_fault_6, sr_fp_7)
    else
      tp_b2 (m_StreamReader_fail br_fault br_fp sr_fault sr_fp) fun sr_fault_3 sr_fp_4 =>
      some (sr_fault_3, sr_fp_4)
section
variable {p : Program} {l : Launch} {e : Env} {s : State} {m : MethodId} {args : Array Value} {below : List Frame} {meth : Method} {c : Code} {A : Nat → Prop} {D : va_G} {cB cI : ClassId} {tM : Nat}
set_option maxHeartbeats 4000000 in
set_option maxRecDepth 100000 in
theorem ct_StreamReader_takeFaultOfBlock {q_sr q_i q_iB q_t q_tB q_br : Nat} {sr_at : Int32} {sr_most : Int32} {sr_fault : Int32} {sr_fp : Int32} {i_c : Int32} {i_f : Nat → Int32} {t_c : Int32} {t_f : Nat → Int32} {br_at : Int32} {br_end : Int32} {br_tb : Int32} {br_len : Int64} {br_fault : Int32} {br_fp : Int32} {sr_fault' : Int32} {sr_fp' : Int32} (hm : m_StreamReader_takeFaultOfBlock sr_fault sr_fp br_fault br_fp = some (sr_fault', sr_fp')) (sz : Nat) : tp_Cv l y_StreamReader_takeFaultOfBlock ws_StreamReader_takeFaultOfBlock rm_StreamReader_takeFaultOfBlock D (tp_ty cB cI) tM [.ref q_sr] [(q_sr, .inr (4, [.ref q_i, .ref q_t, .ref q_br, .int sr_at, .int sr_most, .int sr_fault, .int sr_fp])), (q_i, .inr (3, [.ref q_iB, .int i_c])), (q_iB, .inl (cB, 10000, .inl i_f)), (q_t, .inr (3, [.ref q_tB, .int t_c])), (q_tB, .inl (cB, 10000, .inl t_f)), (q_br, .inr (0, [.ref q_i, .ref q_t, .int br_at, .int br_end, .int br_tb, .long br_len, .int br_fault, .int br_fp]))] sz [(q_sr, .inr (4, [.ref q_i, .ref q_t, .ref q_br, .int sr_at, .int sr_most, .int sr_fault', .int sr_fp'])), (q_i, .inr (3, [.ref q_iB, .int i_c])), (q_iB, .inl (cB, 10000, .inl i_f)), (q_t, .inr (3, [.ref q_tB, .int t_c])), (q_tB, .inl (cB, 10000, .inl t_f)), (q_br, .inr (0, [.ref q_i, .ref q_t, .int br_at, .int br_end, .int br_tb, .long br_len, .int br_fault, .int br_fp]))] := by
  refine Met.ofW (cc := c_StreamReader_takeFaultOfBlock) (maxL := 1) (ret := none) (by decide) rfl ?_
  intro p e s m args below meth c s₁ B hml hv
  obtain ⟨rfl, hv⟩ := hv
  have hw := tp_entry hv
  generalize va_A [(q_sr, .inr (4, [.ref q_i, .ref q_t, .ref q_br, .int sr_at, .int sr_most, .int sr_fault, .int sr_fp])), (q_i, .inr (3, [.ref q_iB, .int i_c])), (q_iB, .inl (cB, 10000, .inl i_f)), (q_t, .inr (3, [.ref q_tB, .int t_c])), (q_tB, .inl (cB, 10000, .inl t_f)), (q_br, .inr (0, [.ref q_i, .ref q_t, .int br_at, .int br_end, .int br_tb, .long br_len, .int br_fault, .int br_fp]))] sz = A at hw ⊢
  have hx := B.exec
  have hb := B.bytes
  have hr := B.returns
  have hts0 := atoms_spec (ws := ws_StreamReader_takeFaultOfBlock) B.pre
  have hts := fun w h => hts0 w (List.mem_cons_of_mem _ h)
  have hown : s.vm.findClass R_StreamReader = some m.cls := findClass_of_methodNamed B.named
  have hlocks := B.notSynchronized
  have hF : CallFix p m c c_StreamReader_takeFaultOfBlock 1 s _ tpG R_StreamReader := ⟨hx, hb, hml, hown, hts⟩
  have hF2 : tp_F p m c c_StreamReader_takeFaultOfBlock 1 s _ tpG R_StreamReader meth none := ⟨hF, hr, hlocks⟩
  have hl := lv_entry ([.ref q_sr]) (n := 1) (Nat.le_of_ble_eq_true rfl)
  rw [lg_entry_eq]
  generalize (lg_sl ([.ref q_sr]) ++ List.replicate (1 - (lg_sl ([.ref q_sr])).length) Slot.unset).toArray = ls at hl ⊢
  replace hl : lv_has ls 1 [(0, .ref q_sr)] := hl
  unfold m_StreamReader_takeFaultOfBlock at hm
  refine lv_aload_n hx hb d_StreamReader_takeFaultOfBlock_0 rfl (lv_at hl 0 rfl) ?_
  refine tp_get (v := .ref q_br) (C := R_StreamReader) (T := T_StreamReader) hx hb hts fw_StreamReader hown hw 0 rfl rfl 2 (by decide +kernel) (hts _ wd_195) rfl d_StreamReader_takeFaultOfBlock_1 ?_
  refine tp_getN (v := .int br_fault) (C := R_BlockReader) (T := T_BlockReader) hx hb hts fw_BlockReader hown hw 5 rfl rfl 6 (by decide +kernel) nw_9 rfl d_StreamReader_takeFaultOfBlock_4 ?_
  refine lv_if_eq (tgt := 44) hx hb d_StreamReader_takeFaultOfBlock_7 (by decide +kernel) (fun hc1 => ?_) (fun hc1 => ?_)
  · replace hm := tp_it hc1 hm
    obtain ⟨rfl, rfl⟩ := tp_inj2 hm
    exact tp_vret () hx hb hr hlocks hw d_StreamReader_takeFaultOfBlock_44
  · replace hm := tp_if hc1 hm
    refine lv_aload_n hx hb d_StreamReader_takeFaultOfBlock_10 rfl (lv_at hl 0 rfl) ?_
    refine lv_aload_n hx hb d_StreamReader_takeFaultOfBlock_11 rfl (lv_at hl 0 rfl) ?_
    refine tp_get (v := .ref q_br) (C := R_StreamReader) (T := T_StreamReader) hx hb hts fw_StreamReader hown hw 0 rfl rfl 2 (by decide +kernel) (hts _ wd_195) rfl d_StreamReader_takeFaultOfBlock_12 ?_
    refine tp_getN (v := .int br_fault) (C := R_BlockReader) (T := T_BlockReader) hx hb hts fw_BlockReader hown hw 5 rfl rfl 6 (by decide +kernel) nw_9 rfl d_StreamReader_takeFaultOfBlock_15 ?_
    refine lv_iconst (v := (1 : Int32)) hx hb d_StreamReader_takeFaultOfBlock_18 (by decide +kernel) ?_
    refine lv_icmp_ne (tgt := 27) hx hb d_StreamReader_takeFaultOfBlock_19 (by decide +kernel) (fun hc2 => ?_) (fun hc2 => ?_)
    · replace hm := tp_if hc2 hm
      refine lv_aload_n hx hb d_StreamReader_takeFaultOfBlock_27 rfl (lv_at hl 0 rfl) ?_
      refine tp_get (v := .ref q_br) (C := R_StreamReader) (T := T_StreamReader) hx hb hts fw_StreamReader hown hw 0 rfl rfl 2 (by decide +kernel) (hts _ wd_195) rfl d_StreamReader_takeFaultOfBlock_28 ?_
      refine tp_getN (v := .int br_fault) (C := R_BlockReader) (T := T_BlockReader) hx hb hts fw_BlockReader hown hw 5 rfl rfl 6 (by decide +kernel) nw_9 rfl d_StreamReader_takeFaultOfBlock_31 ?_
      refine lv_aload_n hx hb d_StreamReader_takeFaultOfBlock_34 rfl (lv_at hl 0 rfl) ?_
      refine tp_get (v := .ref q_br) (C := R_StreamReader) (T := T_StreamReader) hx hb hts fw_StreamReader hown hw 0 rfl rfl 2 (by decide +kernel) (hts _ wd_195) rfl d_StreamReader_takeFaultOfBlock_35 ?_
      refine tp_getN (v := .int br_fp) (C := R_BlockReader) (T := T_BlockReader) hx hb hts fw_BlockReader hown hw 5 rfl rfl 7 (by decide +kernel) nw_10 rfl d_StreamReader_takeFaultOfBlock_38 ?_
      obtain ⟨sr_fault_3, sr_fp_4, hm5, hm⟩ := tp_b2_e hm
      refine tp_callv (wr := []) (WS' := [(q_sr, .inr (4, [.ref q_i, .ref q_t, .ref q_br, .int sr_at, .int sr_most, .int sr_fault_3, .int sr_fp_4])), (q_i, .inr (3, [.ref q_iB, .int i_c])), (q_iB, .inl (cB, 10000, .inl i_f)), (q_t, .inr (3, [.ref q_tB, .int t_c])), (q_tB, .inl (cB, 10000, .inl t_f)), (q_br, .inr (0, [.ref q_i, .ref q_t, .int br_at, .int br_end, .int br_tb, .long br_len, .int br_fault, .int br_fp]))]) (va_runV (As := [.int br_fault, .int br_fp]) (rest := []) hF (ct_StreamReader_fail (l := l) (D := D) (cB := cB) (cI := cI) (tM := tM) (q_sr := q_sr) (q_i := q_i) (q_iB := q_iB) (q_t := q_t) (q_tB := q_tB) (q_br := q_br) (sr_at := sr_at) (sr_most := sr_most) (sr_fault := sr_fault) (sr_fp := sr_fp) (i_c := i_c) (i_f := i_f) (t_c := t_c) (t_f := t_f) (br_at := br_at) (br_end := br_end) (br_tb := br_tb) (br_len := br_len) (br_fault := br_fault) (br_fp := br_fp) (x1 := br_fault) (x2 := br_fp) (sr_fault' := sr_fault_3) (sr_fp' := sr_fp_4) hm5 _) (cwV 2 hts (tpG_V wd_190 wd_191 wd_192 wd_189 wd_188) rfl rfl rfl ⟨rfl, yd_StreamReader_fail⟩ ⟨Nat.le_of_ble_eq_true rfl, Nat.le_of_ble_eq_true rfl⟩) ⟨tp_blind, va_recv hw.1 hw.2.1 (ci := 4) (q0 := 0) rfl rfl, tp_pre hw [0, 1, 2, 3, 4, 5] rfl rfl⟩ rfl rfl hl.1 rfl (lv_room (Nat.le_of_ble_eq_true rfl)) d_StreamReader_takeFaultOfBlock_41 ⟨Nat.le_of_ble_eq_true rfl, Nat.le_of_ble_eq_true rfl⟩) hw [0, 1, 2, 3, 4, 5] [] [0, 1, 2, 3, 4, 5] rfl rfl rfl (by decide) rfl rfl (fun H locs hw => ?_)
      obtain ⟨rfl, rfl⟩ := tp_inj2 hm
      exact tp_vret () hx hb hr hlocks hw d_StreamReader_takeFaultOfBlock_44
    · replace hm := tp_it hc2 hm
      refine lv_bipush (v := (12 : Int32)) hx hb d_StreamReader_takeFaultOfBlock_22 (by decide +kernel) ?_
      refine lv_goto (tgt := 34) hx hb d_StreamReader_takeFaultOfBlock_24 (by decide +kernel) ?_
      refine lv_aload_n hx hb d_StreamReader_takeFaultOfBlock_34 rfl (lv_at hl 0 rfl) ?_
      refine tp_get (v := .ref q_br) (C := R_StreamReader) (T := T_StreamReader) hx hb hts fw_StreamReader hown hw 0 rfl rfl 2 (by decide +kernel) (hts _ wd_195) rfl d_StreamReader_takeFaultOfBlock_35 ?_
      refine tp_getN (v := .int br_fp) (C := R_BlockReader) (T := T_BlockReader) hx hb hts fw_BlockReader hown hw 5 rfl rfl 7 (by decide +kernel) nw_10 rfl d_StreamReader_takeFaultOfBlock_38 ?_
      obtain ⟨sr_fault_6, sr_fp_7, hm8, hm⟩ := tp_b2_e hm
      refine tp_callv (wr := []) (WS' := [(q_sr, .inr (4, [.ref q_i, .ref q_t, .ref q_br, .int sr_at, .int sr_most, .int sr_fault_6, .int sr_fp_7])), (q_i, .inr (3, [.ref q_iB, .int i_c])), (q_iB, .inl (cB, 10000, .inl i_f)), (q_t, .inr (3, [.ref q_tB, .int t_c])), (q_tB, .inl (cB, 10000, .inl t_f)), (q_br, .inr (0, [.ref q_i, .ref q_t, .int br_at, .int br_end, .int br_tb, .long br_len, .int br_fault, .int br_fp]))]) (va_runV (As := [.int (12 : Int32), .int br_fp]) (rest := []) hF (ct_StreamReader_fail (l := l) (D := D) (cB := cB) (cI := cI) (tM := tM) (q_sr := q_sr) (q_i := q_i) (q_iB := q_iB) (q_t := q_t) (q_tB := q_tB) (q_br := q_br) (sr_at := sr_at) (sr_most := sr_most) (sr_fault := sr_fault) (sr_fp := sr_fp) (i_c := i_c) (i_f := i_f) (t_c := t_c) (t_f := t_f) (br_at := br_at) (br_end := br_end) (br_tb := br_tb) (br_len := br_len) (br_fault := br_fault) (br_fp := br_fp) (x1 := (12 : Int32)) (x2 := br_fp) (sr_fault' := sr_fault_6) (sr_fp' := sr_fp_7) hm8 _) (cwV 2 hts (tpG_V wd_190 wd_191 wd_192 wd_189 wd_188) rfl rfl rfl ⟨rfl, yd_StreamReader_fail⟩ ⟨Nat.le_of_ble_eq_true rfl, Nat.le_of_ble_eq_true rfl⟩) ⟨tp_blind, va_recv hw.1 hw.2.1 (ci := 4) (q0 := 0) rfl rfl, tp_pre hw [0, 1, 2, 3, 4, 5] rfl rfl⟩ rfl rfl hl.1 rfl (lv_room (Nat.le_of_ble_eq_true rfl)) d_StreamReader_takeFaultOfBlock_41 ⟨Nat.le_of_ble_eq_true rfl, Nat.le_of_ble_eq_true rfl⟩) hw [0, 1, 2, 3, 4, 5] [] [0, 1, 2, 3, 4, 5] rfl rfl rfl (by decide) rfl rfl (fun H locs hw => ?_)
      obtain ⟨rfl, rfl⟩ := tp_inj2 hm
      exact tp_vret () hx hb hr hlocks hw d_StreamReader_takeFaultOfBlock_44
end
abbrev rm_StreamReader_readPlain : Room := { frames := 2, cells := 0, slots := 0, locals := 45 }
abbrev ws_StreamReader_readPlain : List Cond := .code y_StreamReader_readPlain c_StreamReader_readPlain 4 none :: tpG
noncomputable def m_StreamReader_readPlain (N : Nat) (x1 : Int32) (x2 : Int32) (sr_most : Int32) (sr_fault : Int32) (sr_fp : Int32) (i_c : Int32) (i_f : Nat → Int32) (t_c : Int32) (t_f : Nat → Int32) : Option (Int32 × Int32 × Int32 × (Nat → Int32)) :=
  if (x2 - x1) ≤ (sr_most - t_c) then
    tp_b2 (m_Row_putFrom N x1 x2 t_c t_f i_c i_f) fun a_c_2 a_f_3 =>
    some (sr_fault, sr_fp, a_c_2, a_f_3)
  else
    tp_b2 (m_StreamReader_fail (3 : Int32) (x1 + (sr_most - t_c)) sr_fault sr_fp) fun sr_fault_5 sr_fp_6 =>
    some (sr_fault_5, sr_fp_6, t_c, t_f)
section
variable {p : Program} {l : Launch} {e : Env} {s : State} {m : MethodId} {args : Array Value} {below : List Frame} {meth : Method} {c : Code} {A : Nat → Prop} {D : va_G} {cB cI : ClassId} {tM : Nat}
set_option maxHeartbeats 4000000 in
set_option maxRecDepth 100000 in
theorem ct_StreamReader_readPlain {q_sr q_i q_iB q_t q_tB q_br : Nat} {sr_at : Int32} {sr_most : Int32} {sr_fault : Int32} {sr_fp : Int32} {i_c : Int32} {i_f : Nat → Int32} {t_c : Int32} {t_f : Nat → Int32} {br_at : Int32} {br_end : Int32} {br_tb : Int32} {br_len : Int64} {br_fault : Int32} {br_fp : Int32} {N : Nat} {x1 : Int32} {x2 : Int32} {sr_fault' : Int32} {sr_fp' : Int32} {t_c' : Int32} {t_f' : Nat → Int32} (hm : m_StreamReader_readPlain N x1 x2 sr_most sr_fault sr_fp i_c i_f t_c t_f = some (sr_fault', sr_fp', t_c', t_f')) (sz : Nat) : tp_Cv l y_StreamReader_readPlain ws_StreamReader_readPlain rm_StreamReader_readPlain D (tp_ty cB cI) tM [.ref q_sr, .int x1, .int x2] [(q_sr, .inr (4, [.ref q_i, .ref q_t, .ref q_br, .int sr_at, .int sr_most, .int sr_fault, .int sr_fp])), (q_i, .inr (3, [.ref q_iB, .int i_c])), (q_iB, .inl (cB, 10000, .inl i_f)), (q_t, .inr (3, [.ref q_tB, .int t_c])), (q_tB, .inl (cB, 10000, .inl t_f)), (q_br, .inr (0, [.ref q_i, .ref q_t, .int br_at, .int br_end, .int br_tb, .long br_len, .int br_fault, .int br_fp]))] sz [(q_sr, .inr (4, [.ref q_i, .ref q_t, .ref q_br, .int sr_at, .int sr_most, .int sr_fault', .int sr_fp'])), (q_i, .inr (3, [.ref q_iB, .int i_c])), (q_iB, .inl (cB, 10000, .inl i_f)), (q_t, .inr (3, [.ref q_tB, .int t_c'])), (q_tB, .inl (cB, 10000, .inl t_f')), (q_br, .inr (0, [.ref q_i, .ref q_t, .int br_at, .int br_end, .int br_tb, .long br_len, .int br_fault, .int br_fp]))] := by
  refine Met.ofW (cc := c_StreamReader_readPlain) (maxL := 4) (ret := none) (by decide) rfl ?_
  intro p e s m args below meth c s₁ B hml hv
  obtain ⟨rfl, hv⟩ := hv
  have hw := tp_entry hv
  generalize va_A [(q_sr, .inr (4, [.ref q_i, .ref q_t, .ref q_br, .int sr_at, .int sr_most, .int sr_fault, .int sr_fp])), (q_i, .inr (3, [.ref q_iB, .int i_c])), (q_iB, .inl (cB, 10000, .inl i_f)), (q_t, .inr (3, [.ref q_tB, .int t_c])), (q_tB, .inl (cB, 10000, .inl t_f)), (q_br, .inr (0, [.ref q_i, .ref q_t, .int br_at, .int br_end, .int br_tb, .long br_len, .int br_fault, .int br_fp]))] sz = A at hw ⊢
  have hx := B.exec
  have hb := B.bytes
  have hr := B.returns
  have hts0 := atoms_spec (ws := ws_StreamReader_readPlain) B.pre
  have hts := fun w h => hts0 w (List.mem_cons_of_mem _ h)
  have hown : s.vm.findClass R_StreamReader = some m.cls := findClass_of_methodNamed B.named
  have hlocks := B.notSynchronized
  have hF : CallFix p m c c_StreamReader_readPlain 4 s _ tpG R_StreamReader := ⟨hx, hb, hml, hown, hts⟩
  have hF2 : tp_F p m c c_StreamReader_readPlain 4 s _ tpG R_StreamReader meth none := ⟨hF, hr, hlocks⟩
  have hl := lv_entry ([.ref q_sr, .int x1, .int x2]) (n := 4) (Nat.le_of_ble_eq_true rfl)
  rw [lg_entry_eq]
  generalize (lg_sl ([.ref q_sr, .int x1, .int x2]) ++ List.replicate (4 - (lg_sl ([.ref q_sr, .int x1, .int x2])).length) Slot.unset).toArray = ls at hl ⊢
  replace hl : lv_has ls 4 [(0, .ref q_sr), (1, .int x1), (2, .int x2)] := hl
  unfold m_StreamReader_readPlain at hm
  refine lv_aload_n hx hb d_StreamReader_readPlain_0 rfl (lv_at hl 0 rfl) ?_
  refine tp_get (v := .int sr_most) (C := R_StreamReader) (T := T_StreamReader) hx hb hts fw_StreamReader hown hw 0 rfl rfl 4 (by decide +kernel) (hts _ wd_186) rfl d_StreamReader_readPlain_1 ?_
  refine lv_aload_n hx hb d_StreamReader_readPlain_4 rfl (lv_at hl 0 rfl) ?_
  refine tp_get (v := .ref q_t) (C := R_StreamReader) (T := T_StreamReader) hx hb hts fw_StreamReader hown hw 0 rfl rfl 1 (by decide +kernel) (hts _ wd_196) rfl d_StreamReader_readPlain_5 ?_
  refine tp_getN (v := .int t_c) (C := R_Row) (T := T_Row) hx hb hts fw_Row hown hw 3 rfl rfl 1 (by decide +kernel) nw_7 rfl d_StreamReader_readPlain_8 ?_
  refine lv_isub hx hb d_StreamReader_readPlain_11 ?_
  refine lv_istore_n (lv' := [(3, .int (sr_most - t_c)), (0, .ref q_sr), (1, .int x1), (2, .int x2)]) hx hb d_StreamReader_readPlain_12 rfl hl (by decide +kernel) rfl (fun ls hl => ?_)
  refine lv_iload_n hx hb d_StreamReader_readPlain_13 rfl (lv_at hl 3 rfl) ?_
  refine lv_iload_n hx hb d_StreamReader_readPlain_14 rfl (lv_at hl 2 rfl) ?_
  refine lv_isub hx hb d_StreamReader_readPlain_15 ?_
  refine lv_iload_n hx hb d_StreamReader_readPlain_16 rfl (lv_at hl 0 rfl) ?_
  refine lv_icmp_le (tgt := 31) hx hb d_StreamReader_readPlain_17 (by decide +kernel) (fun hc1 => ?_) (fun hc1 => ?_)
  · replace hm := tp_it hc1 hm
    refine lv_aload_n hx hb d_StreamReader_readPlain_31 rfl (lv_at hl 1 rfl) ?_
    refine tp_get (v := .ref q_t) (C := R_StreamReader) (T := T_StreamReader) hx hb hts fw_StreamReader hown hw 0 rfl rfl 1 (by decide +kernel) (hts _ wd_196) rfl d_StreamReader_readPlain_32 ?_
    refine lv_aload_n hx hb d_StreamReader_readPlain_35 rfl (lv_at hl 1 rfl) ?_
    refine tp_get (v := .ref q_i) (C := R_StreamReader) (T := T_StreamReader) hx hb hts fw_StreamReader hown hw 0 rfl rfl 0 (by decide +kernel) (hts _ wd_187) rfl d_StreamReader_readPlain_36 ?_
    refine lv_iload_n hx hb d_StreamReader_readPlain_39 rfl (lv_at hl 2 rfl) ?_
    refine lv_iload_n hx hb d_StreamReader_readPlain_40 rfl (lv_at hl 3 rfl) ?_
    obtain ⟨a_c_2, a_f_3, hm4, hm⟩ := tp_b2_e hm
    refine tp_callv (wr := [(q_sr, .inr (4, [.ref q_i, .ref q_t, .ref q_br, .int sr_at, .int sr_most, .int sr_fault, .int sr_fp])), (q_br, .inr (0, [.ref q_i, .ref q_t, .int br_at, .int br_end, .int br_tb, .long br_len, .int br_fault, .int br_fp]))]) (WS' := [(q_sr, .inr (4, [.ref q_i, .ref q_t, .ref q_br, .int sr_at, .int sr_most, .int sr_fault, .int sr_fp])), (q_i, .inr (3, [.ref q_iB, .int i_c])), (q_iB, .inl (cB, 10000, .inl i_f)), (q_t, .inr (3, [.ref q_tB, .int a_c_2])), (q_tB, .inl (cB, 10000, .inl a_f_3)), (q_br, .inr (0, [.ref q_i, .ref q_t, .int br_at, .int br_end, .int br_tb, .long br_len, .int br_fault, .int br_fp]))]) (va_runV (As := [.ref q_i, .int x1, .int x2]) (rest := []) hF (ct_Row_putFrom (l := l) (D := D) (cB := cB) (cI := cI) (tM := tM) (q_a := q_t) (q_aB := q_tB) (q_b := q_i) (q_bB := q_iB) (a_c := t_c) (a_f := t_f) (b_c := i_c) (b_f := i_f) (x2 := x1) (x3 := x2) (N := N) (a_c' := a_c_2) (a_f' := a_f_3) hm4 _) (cwV 3 hts (tpG_V wd_197 wd_88 wd_89 wd_3 wd_86) rfl rfl rfl ⟨rfl, yd_Row_putFrom⟩ ⟨Nat.le_of_ble_eq_true rfl, Nat.le_of_ble_eq_true rfl⟩) ⟨tp_blind, va_recv hw.1 hw.2.1 (ci := 3) (q0 := 3) rfl rfl, tp_pre hw [3, 4, 1, 2] rfl rfl⟩ rfl rfl hl.1 rfl (lv_room (Nat.le_of_ble_eq_true rfl)) d_StreamReader_readPlain_41 ⟨Nat.le_of_ble_eq_true rfl, Nat.le_of_ble_eq_true rfl⟩) hw [3, 4, 1, 2] [0, 5] [0, 4, 5, 2, 3, 1] rfl rfl rfl (by decide) rfl rfl (fun H locs hw => ?_)
    obtain ⟨rfl, rfl, rfl, rfl⟩ := tp_inj4 hm
    exact tp_vret () hx hb hr hlocks hw d_StreamReader_readPlain_44
  · replace hm := tp_if hc1 hm
    refine lv_aload_n hx hb d_StreamReader_readPlain_20 rfl (lv_at hl 1 rfl) ?_
    refine lv_iconst (v := (3 : Int32)) hx hb d_StreamReader_readPlain_21 (by decide +kernel) ?_
    refine lv_iload_n hx hb d_StreamReader_readPlain_22 rfl (lv_at hl 2 rfl) ?_
    refine lv_iload_n hx hb d_StreamReader_readPlain_23 rfl (lv_at hl 0 rfl) ?_
    refine lv_iadd hx hb d_StreamReader_readPlain_24 ?_
    obtain ⟨sr_fault_5, sr_fp_6, hm7, hm⟩ := tp_b2_e hm
    refine tp_callv (wr := []) (WS' := [(q_sr, .inr (4, [.ref q_i, .ref q_t, .ref q_br, .int sr_at, .int sr_most, .int sr_fault_5, .int sr_fp_6])), (q_i, .inr (3, [.ref q_iB, .int i_c])), (q_iB, .inl (cB, 10000, .inl i_f)), (q_t, .inr (3, [.ref q_tB, .int t_c])), (q_tB, .inl (cB, 10000, .inl t_f)), (q_br, .inr (0, [.ref q_i, .ref q_t, .int br_at, .int br_end, .int br_tb, .long br_len, .int br_fault, .int br_fp]))]) (va_runV (As := [.int (3 : Int32), .int (x1 + (sr_most - t_c))]) (rest := []) hF (ct_StreamReader_fail (l := l) (D := D) (cB := cB) (cI := cI) (tM := tM) (q_sr := q_sr) (q_i := q_i) (q_iB := q_iB) (q_t := q_t) (q_tB := q_tB) (q_br := q_br) (sr_at := sr_at) (sr_most := sr_most) (sr_fault := sr_fault) (sr_fp := sr_fp) (i_c := i_c) (i_f := i_f) (t_c := t_c) (t_f := t_f) (br_at := br_at) (br_end := br_end) (br_tb := br_tb) (br_len := br_len) (br_fault := br_fault) (br_fp := br_fp) (x1 := (3 : Int32)) (x2 := (x1 + (sr_most - t_c))) (sr_fault' := sr_fault_5) (sr_fp' := sr_fp_6) hm7 _) (cwV 2 hts (tpG_V wd_190 wd_191 wd_192 wd_189 wd_188) rfl rfl rfl ⟨rfl, yd_StreamReader_fail⟩ ⟨Nat.le_of_ble_eq_true rfl, Nat.le_of_ble_eq_true rfl⟩) ⟨tp_blind, va_recv hw.1 hw.2.1 (ci := 4) (q0 := 0) rfl rfl, tp_pre hw [0, 1, 2, 3, 4, 5] rfl rfl⟩ rfl rfl hl.1 rfl (lv_room (Nat.le_of_ble_eq_true rfl)) d_StreamReader_readPlain_25 ⟨Nat.le_of_ble_eq_true rfl, Nat.le_of_ble_eq_true rfl⟩) hw [0, 1, 2, 3, 4, 5] [] [0, 1, 2, 3, 4, 5] rfl rfl rfl (by decide) rfl rfl (fun H locs hw => ?_)
    refine lv_goto (tgt := 44) hx hb d_StreamReader_readPlain_28 (by decide +kernel) ?_
    obtain ⟨rfl, rfl, rfl, rfl⟩ := tp_inj4 hm
    exact tp_vret () hx hb hr hlocks hw d_StreamReader_readPlain_44
end
abbrev rm_StreamReader_checkSum : Room := { frames := 2, cells := 0, slots := 0, locals := 47 }
abbrev ws_StreamReader_checkSum : List Cond := .code y_StreamReader_checkSum c_StreamReader_checkSum 4 none :: tpG
noncomputable def m_StreamReader_checkSum (N : Nat) (x1 : Int32) (x2 : Int32) (sr_fault : Int32) (sr_fp : Int32) (i_c : Int32) (i_f : Nat → Int32) (t_c : Int32) (t_f : Nat → Int32) : Option (Int32 × Int32) :=
  tp_b1 (m_Row_numberAt N x1 (4 : Int32) i_c i_f) fun r1 =>
  if sr_fault = 0 then
    tp_b1 (m_Sums_sumOf N x2 t_c t_c t_f) fun r4 =>
    if (Int64.toInt32 r1) = r4 then
      some (sr_fault, sr_fp)
    else
      tp_b2 (m_StreamReader_fail (11 : Int32) x1 sr_fault sr_fp) fun sr_fault_7 sr_fp_8 =>
      some (sr_fault_7, sr_fp_8)
  else
    some (sr_fault, sr_fp)
section
variable {p : Program} {l : Launch} {e : Env} {s : State} {m : MethodId} {args : Array Value} {below : List Frame} {meth : Method} {c : Code} {A : Nat → Prop} {D : va_G} {cB cI : ClassId} {tM : Nat}
set_option maxHeartbeats 4000000 in
set_option maxRecDepth 100000 in
theorem ct_StreamReader_checkSum {q_sr q_i q_iB q_t q_tB q_br : Nat} {sr_at : Int32} {sr_most : Int32} {sr_fault : Int32} {sr_fp : Int32} {i_c : Int32} {i_f : Nat → Int32} {t_c : Int32} {t_f : Nat → Int32} {br_at : Int32} {br_end : Int32} {br_tb : Int32} {br_len : Int64} {br_fault : Int32} {br_fp : Int32} {N : Nat} {x1 : Int32} {x2 : Int32} {sr_fault' : Int32} {sr_fp' : Int32} (hm : m_StreamReader_checkSum N x1 x2 sr_fault sr_fp i_c i_f t_c t_f = some (sr_fault', sr_fp')) (sz : Nat) : tp_Cv l y_StreamReader_checkSum ws_StreamReader_checkSum rm_StreamReader_checkSum D (tp_ty cB cI) tM [.ref q_sr, .int x1, .int x2] [(q_sr, .inr (4, [.ref q_i, .ref q_t, .ref q_br, .int sr_at, .int sr_most, .int sr_fault, .int sr_fp])), (q_i, .inr (3, [.ref q_iB, .int i_c])), (q_iB, .inl (cB, 10000, .inl i_f)), (q_t, .inr (3, [.ref q_tB, .int t_c])), (q_tB, .inl (cB, 10000, .inl t_f)), (q_br, .inr (0, [.ref q_i, .ref q_t, .int br_at, .int br_end, .int br_tb, .long br_len, .int br_fault, .int br_fp]))] sz [(q_sr, .inr (4, [.ref q_i, .ref q_t, .ref q_br, .int sr_at, .int sr_most, .int sr_fault', .int sr_fp'])), (q_i, .inr (3, [.ref q_iB, .int i_c])), (q_iB, .inl (cB, 10000, .inl i_f)), (q_t, .inr (3, [.ref q_tB, .int t_c])), (q_tB, .inl (cB, 10000, .inl t_f)), (q_br, .inr (0, [.ref q_i, .ref q_t, .int br_at, .int br_end, .int br_tb, .long br_len, .int br_fault, .int br_fp]))] := by
  refine Met.ofW (cc := c_StreamReader_checkSum) (maxL := 4) (ret := none) (by decide) rfl ?_
  intro p e s m args below meth c s₁ B hml hv
  obtain ⟨rfl, hv⟩ := hv
  have hw := tp_entry hv
  generalize va_A [(q_sr, .inr (4, [.ref q_i, .ref q_t, .ref q_br, .int sr_at, .int sr_most, .int sr_fault, .int sr_fp])), (q_i, .inr (3, [.ref q_iB, .int i_c])), (q_iB, .inl (cB, 10000, .inl i_f)), (q_t, .inr (3, [.ref q_tB, .int t_c])), (q_tB, .inl (cB, 10000, .inl t_f)), (q_br, .inr (0, [.ref q_i, .ref q_t, .int br_at, .int br_end, .int br_tb, .long br_len, .int br_fault, .int br_fp]))] sz = A at hw ⊢
  have hx := B.exec
  have hb := B.bytes
  have hr := B.returns
  have hts0 := atoms_spec (ws := ws_StreamReader_checkSum) B.pre
  have hts := fun w h => hts0 w (List.mem_cons_of_mem _ h)
  have hown : s.vm.findClass R_StreamReader = some m.cls := findClass_of_methodNamed B.named
  have hlocks := B.notSynchronized
  have hF : CallFix p m c c_StreamReader_checkSum 4 s _ tpG R_StreamReader := ⟨hx, hb, hml, hown, hts⟩
  have hF2 : tp_F p m c c_StreamReader_checkSum 4 s _ tpG R_StreamReader meth none := ⟨hF, hr, hlocks⟩
  have hl := lv_entry ([.ref q_sr, .int x1, .int x2]) (n := 4) (Nat.le_of_ble_eq_true rfl)
  rw [lg_entry_eq]
  generalize (lg_sl ([.ref q_sr, .int x1, .int x2]) ++ List.replicate (4 - (lg_sl ([.ref q_sr, .int x1, .int x2])).length) Slot.unset).toArray = ls at hl ⊢
  replace hl : lv_has ls 4 [(0, .ref q_sr), (1, .int x1), (2, .int x2)] := hl
  unfold m_StreamReader_checkSum at hm
  refine lv_aload_n hx hb d_StreamReader_checkSum_0 rfl (lv_at hl 0 rfl) ?_
  refine tp_get (v := .ref q_i) (C := R_StreamReader) (T := T_StreamReader) hx hb hts fw_StreamReader hown hw 0 rfl rfl 0 (by decide +kernel) (hts _ wd_187) rfl d_StreamReader_checkSum_1 ?_
  refine lv_iload_n hx hb d_StreamReader_checkSum_4 rfl (lv_at hl 1 rfl) ?_
  refine lv_iconst (v := (4 : Int32)) hx hb d_StreamReader_checkSum_5 (by decide +kernel) ?_
  obtain ⟨r1, hm2, hm⟩ := tp_b1_e hm
  refine tp_calll (wr := [(q_sr, .inr (4, [.ref q_i, .ref q_t, .ref q_br, .int sr_at, .int sr_most, .int sr_fault, .int sr_fp])), (q_t, .inr (3, [.ref q_tB, .int t_c])), (q_tB, .inl (cB, 10000, .inl t_f)), (q_br, .inr (0, [.ref q_i, .ref q_t, .int br_at, .int br_end, .int br_tb, .long br_len, .int br_fault, .int br_fp]))]) (WS' := [(q_sr, .inr (4, [.ref q_i, .ref q_t, .ref q_br, .int sr_at, .int sr_most, .int sr_fault, .int sr_fp])), (q_i, .inr (3, [.ref q_iB, .int i_c])), (q_iB, .inl (cB, 10000, .inl i_f)), (q_t, .inr (3, [.ref q_tB, .int t_c])), (q_tB, .inl (cB, 10000, .inl t_f)), (q_br, .inr (0, [.ref q_i, .ref q_t, .int br_at, .int br_end, .int br_tb, .long br_len, .int br_fault, .int br_fp]))]) (va_runV (As := [.int x1, .int (4 : Int32)]) (rest := []) hF (ct_Row_numberAt (l := l) (D := D) (cB := cB) (cI := cI) (tM := tM) (q_a := q_i) (q_aB := q_iB) (a_c := i_c) (a_f := i_f) (x1 := x1) (x2 := (4 : Int32)) (N := N) (r := r1) hm2 _) (cwV 2 hts (tpG_V wd_198 wd_33 wd_34 wd_3 wd_31) rfl rfl rfl ⟨rfl, yd_Row_numberAt⟩ ⟨Nat.le_of_ble_eq_true rfl, Nat.le_of_ble_eq_true rfl⟩) ⟨tp_blind, va_recv hw.1 hw.2.1 (ci := 3) (q0 := 1) rfl rfl, tp_pre hw [1, 2] rfl rfl⟩ rfl rfl hl.1 rfl (lv_room (Nat.le_of_ble_eq_true rfl)) d_StreamReader_checkSum_6 ⟨Nat.le_of_ble_eq_true rfl, Nat.le_of_ble_eq_true rfl⟩) hw [1, 2] [0, 3, 4, 5] [0, 4, 5, 1, 2, 3] rfl rfl rfl (by decide) rfl rfl (fun H locs hw => ?_)
  refine lv_l2i (v := (Int64.toInt32 r1)) hx hb d_StreamReader_checkSum_9 rfl ?_
  refine lv_istore_n (lv' := [(3, .int (Int64.toInt32 r1)), (0, .ref q_sr), (1, .int x1), (2, .int x2)]) hx hb d_StreamReader_checkSum_10 rfl hl (by decide +kernel) rfl (fun ls hl => ?_)
  refine lv_aload_n hx hb d_StreamReader_checkSum_11 rfl (lv_at hl 1 rfl) ?_
  refine tp_get (v := .int sr_fault) (C := R_StreamReader) (T := T_StreamReader) hx hb hts fw_StreamReader hown hw 0 rfl rfl 5 (by decide +kernel) (hts _ wd_183) rfl d_StreamReader_checkSum_12 ?_
  refine lv_if_ne (tgt := 44) hx hb d_StreamReader_checkSum_15 (by decide +kernel) (fun hc3 => ?_) (fun hc3 => ?_)
  · replace hm := tp_if hc3 hm
    obtain ⟨rfl, rfl⟩ := tp_inj2 hm
    exact tp_vret () hx hb hr hlocks hw d_StreamReader_checkSum_44
  · replace hm := tp_it hc3 hm
    refine lv_iload_n hx hb d_StreamReader_checkSum_18 rfl (lv_at hl 0 rfl) ?_
    refine lv_aload_n hx hb d_StreamReader_checkSum_19 rfl (lv_at hl 1 rfl) ?_
    refine tp_get (v := .ref q_t) (C := R_StreamReader) (T := T_StreamReader) hx hb hts fw_StreamReader hown hw 0 rfl rfl 1 (by decide +kernel) (hts _ wd_196) rfl d_StreamReader_checkSum_20 ?_
    refine lv_iload_n hx hb d_StreamReader_checkSum_23 rfl (lv_at hl 3 rfl) ?_
    refine lv_aload_n hx hb d_StreamReader_checkSum_24 rfl (lv_at hl 1 rfl) ?_
    refine tp_get (v := .ref q_t) (C := R_StreamReader) (T := T_StreamReader) hx hb hts fw_StreamReader hown hw 0 rfl rfl 1 (by decide +kernel) (hts _ wd_196) rfl d_StreamReader_checkSum_25 ?_
    refine tp_getN (v := .int t_c) (C := R_Row) (T := T_Row) hx hb hts fw_Row hown hw 3 rfl rfl 1 (by decide +kernel) nw_7 rfl d_StreamReader_checkSum_28 ?_
    obtain ⟨r4, hm5, hm⟩ := tp_b1_e hm
    refine tp_calli (wr := [(q_sr, .inr (4, [.ref q_i, .ref q_t, .ref q_br, .int sr_at, .int sr_most, .int sr_fault, .int sr_fp])), (q_i, .inr (3, [.ref q_iB, .int i_c])), (q_iB, .inl (cB, 10000, .inl i_f)), (q_br, .inr (0, [.ref q_i, .ref q_t, .int br_at, .int br_end, .int br_tb, .long br_len, .int br_fault, .int br_fp]))]) (WS' := [(q_sr, .inr (4, [.ref q_i, .ref q_t, .ref q_br, .int sr_at, .int sr_most, .int sr_fault, .int sr_fp])), (q_i, .inr (3, [.ref q_iB, .int i_c])), (q_iB, .inl (cB, 10000, .inl i_f)), (q_t, .inr (3, [.ref q_tB, .int t_c])), (q_tB, .inl (cB, 10000, .inl t_f)), (q_br, .inr (0, [.ref q_i, .ref q_t, .int br_at, .int br_end, .int br_tb, .long br_len, .int br_fault, .int br_fp]))]) (va_runS (As := [.ref q_t, .int x2, .int t_c]) (rest := [.int (Int64.toInt32 r1)]) hF (ct_Sums_sumOf (l := l) (D := D) (cB := cB) (cI := cI) (tM := tM) (q_b := q_t) (q_bB := q_tB) (b_c := t_c) (b_f := t_f) (x1 := x2) (x2 := t_c) (N := N) (r := r4) hm5 _) (va_cwS 3 hts (tpG_S wd_199 wd_119 wd_27 wd_117) rfl rfl rfl yd_Sums_sumOf ⟨Nat.le_of_ble_eq_true rfl, Nat.le_of_ble_eq_true rfl⟩) ⟨tp_blind, tp_pre hw [3, 4] rfl rfl⟩ rfl rfl hl.1 rfl (lv_room (Nat.le_of_ble_eq_true rfl)) d_StreamReader_checkSum_31 ⟨Nat.le_of_ble_eq_true rfl, Nat.le_of_ble_eq_true rfl⟩) hw [3, 4] [0, 1, 2, 5] [0, 1, 2, 4, 5, 3] rfl rfl rfl (by decide) rfl rfl (fun H locs hw => ?_)
    refine lv_icmp_eq (tgt := 44) hx hb d_StreamReader_checkSum_34 (by decide +kernel) (fun hc6 => ?_) (fun hc6 => ?_)
    · replace hm := tp_it hc6 hm
      obtain ⟨rfl, rfl⟩ := tp_inj2 hm
      exact tp_vret () hx hb hr hlocks hw d_StreamReader_checkSum_44
    · replace hm := tp_if hc6 hm
      refine lv_aload_n hx hb d_StreamReader_checkSum_37 rfl (lv_at hl 1 rfl) ?_
      refine lv_bipush (v := (11 : Int32)) hx hb d_StreamReader_checkSum_38 (by decide +kernel) ?_
      refine lv_iload_n hx hb d_StreamReader_checkSum_40 rfl (lv_at hl 2 rfl) ?_
      obtain ⟨sr_fault_7, sr_fp_8, hm9, hm⟩ := tp_b2_e hm
      refine tp_callv (wr := []) (WS' := [(q_sr, .inr (4, [.ref q_i, .ref q_t, .ref q_br, .int sr_at, .int sr_most, .int sr_fault_7, .int sr_fp_8])), (q_i, .inr (3, [.ref q_iB, .int i_c])), (q_iB, .inl (cB, 10000, .inl i_f)), (q_t, .inr (3, [.ref q_tB, .int t_c])), (q_tB, .inl (cB, 10000, .inl t_f)), (q_br, .inr (0, [.ref q_i, .ref q_t, .int br_at, .int br_end, .int br_tb, .long br_len, .int br_fault, .int br_fp]))]) (va_runV (As := [.int (11 : Int32), .int x1]) (rest := []) hF (ct_StreamReader_fail (l := l) (D := D) (cB := cB) (cI := cI) (tM := tM) (q_sr := q_sr) (q_i := q_i) (q_iB := q_iB) (q_t := q_t) (q_tB := q_tB) (q_br := q_br) (sr_at := sr_at) (sr_most := sr_most) (sr_fault := sr_fault) (sr_fp := sr_fp) (i_c := i_c) (i_f := i_f) (t_c := t_c) (t_f := t_f) (br_at := br_at) (br_end := br_end) (br_tb := br_tb) (br_len := br_len) (br_fault := br_fault) (br_fp := br_fp) (x1 := (11 : Int32)) (x2 := x1) (sr_fault' := sr_fault_7) (sr_fp' := sr_fp_8) hm9 _) (cwV 2 hts (tpG_V wd_190 wd_191 wd_192 wd_189 wd_188) rfl rfl rfl ⟨rfl, yd_StreamReader_fail⟩ ⟨Nat.le_of_ble_eq_true rfl, Nat.le_of_ble_eq_true rfl⟩) ⟨tp_blind, va_recv hw.1 hw.2.1 (ci := 4) (q0 := 0) rfl rfl, tp_pre hw [0, 1, 2, 3, 4, 5] rfl rfl⟩ rfl rfl hl.1 rfl (lv_room (Nat.le_of_ble_eq_true rfl)) d_StreamReader_checkSum_41 ⟨Nat.le_of_ble_eq_true rfl, Nat.le_of_ble_eq_true rfl⟩) hw [0, 1, 2, 3, 4, 5] [] [0, 1, 2, 3, 4, 5] rfl rfl rfl (by decide) rfl rfl (fun H locs hw => ?_)
      obtain ⟨rfl, rfl⟩ := tp_inj2 hm
      exact tp_vret () hx hb hr hlocks hw d_StreamReader_checkSum_44
end
abbrev rm_StreamReader_readChunk : Room := { frames := 5, cells := 0, slots := 0, locals := 115 }
abbrev ws_StreamReader_readChunk : List Cond := .code y_StreamReader_readChunk c_StreamReader_readChunk 6 none :: tpG
noncomputable def m_StreamReader_readChunk (N : Nat) (sr_at : Int32) (sr_most : Int32) (sr_fault : Int32) (sr_fp : Int32) (i_c : Int32) (i_f : Nat → Int32) (t_c : Int32) (t_f : Nat → Int32) (br_at : Int32) (br_end : Int32) (br_tb : Int32) (br_len : Int64) (br_fault : Int32) (br_fp : Int32) : Option (Int32 × Int32 × Int32 × Int32 × (Nat → Int32) × Int32 × Int32 × Int32 × Int64 × Int32 × Int32) :=
  tp_b1 (m_Row_at sr_at i_c i_f) fun r1 =>
  tp_b1 (m_Row_numberAt N (sr_at + (1 : Int32)) (3 : Int32) i_c i_f) fun r3 =>
  tp_b2 (m_StreamReader_checkHead r1 (Int64.toInt32 r3) sr_at sr_fault sr_fp i_c) fun sr_fault_5 sr_fp_6 =>
  if sr_fault_5 = 0 then
    tp_b0 ((sr_at + (4 : Int32)) + (Int64.toInt32 r3)) fun y9 =>
    if r1 = (255 : Int32) then
      tp_b2 (m_StreamReader_checkMark N (sr_at + (4 : Int32)) y9 sr_at sr_fault_5 sr_fp_6 i_c i_f) fun sr_fault_36 sr_fp_37 =>
      some (y9, sr_fault_36, sr_fp_37, t_c, t_f, br_at, br_end, br_tb, br_len, br_fault, br_fp)
    else
      if r1 = 0 then
        tp_b8 (m_BlockReader_readBlock N ((sr_at + (4 : Int32)) + (4 : Int32)) y9 (if (65536 : Int32) < (sr_most - t_c) then (65536 : Int32) else (sr_most - t_c)) br_at br_end br_tb br_len br_fault br_fp i_c i_f t_c t_f) fun br_at_21 br_end_22 br_tb_23 br_len_24 br_fault_25 br_fp_26 t_c_27 t_f_28 =>
        tp_b2 (m_StreamReader_takeFaultOfBlock sr_fault_5 sr_fp_6 br_fault_25 br_fp_26) fun sr_fault_30 sr_fp_31 =>
        tp_b2 (m_StreamReader_checkSum N (sr_at + (4 : Int32)) t_c sr_fault_30 sr_fp_31 i_c i_f t_c_27 t_f_28) fun sr_fault_33 sr_fp_34 =>
        some (y9, sr_fault_33, sr_fp_34, t_c_27, t_f_28, br_at_21, br_end_22, br_tb_23, br_len_24, br_fault_25, br_fp_26)
      else
        if r1 = (1 : Int32) then
          tp_b4 (m_StreamReader_readPlain N ((sr_at + (4 : Int32)) + (4 : Int32)) y9 sr_most sr_fault_5 sr_fp_6 i_c i_f t_c t_f) fun sr_fault_13 sr_fp_14 t_c_15 t_f_16 =>
          tp_b2 (m_StreamReader_checkSum N (sr_at + (4 : Int32)) t_c sr_fault_13 sr_fp_14 i_c i_f t_c_15 t_f_16) fun sr_fault_18 sr_fp_19 =>
          some (y9, sr_fault_18, sr_fp_19, t_c_15, t_f_16, br_at, br_end, br_tb, br_len, br_fault, br_fp)
        else
          some (y9, sr_fault_5, sr_fp_6, t_c, t_f, br_at, br_end, br_tb, br_len, br_fault, br_fp)
  else
    some (sr_at, sr_fault_5, sr_fp_6, t_c, t_f, br_at, br_end, br_tb, br_len, br_fault, br_fp)
section
variable {p : Program} {l : Launch} {e : Env} {s : State} {m : MethodId} {args : Array Value} {below : List Frame} {meth : Method} {c : Code} {A : Nat → Prop} {D : va_G} {cB cI : ClassId} {tM : Nat}
set_option maxHeartbeats 4000000 in
set_option maxRecDepth 100000 in
theorem ct_StreamReader_readChunk {q_sr q_i q_iB q_t q_tB q_br : Nat} {sr_at : Int32} {sr_most : Int32} {sr_fault : Int32} {sr_fp : Int32} {i_c : Int32} {i_f : Nat → Int32} {t_c : Int32} {t_f : Nat → Int32} {br_at : Int32} {br_end : Int32} {br_tb : Int32} {br_len : Int64} {br_fault : Int32} {br_fp : Int32} {N : Nat} {sr_at' : Int32} {sr_fault' : Int32} {sr_fp' : Int32} {t_c' : Int32} {t_f' : Nat → Int32} {br_at' : Int32} {br_end' : Int32} {br_tb' : Int32} {br_len' : Int64} {br_fault' : Int32} {br_fp' : Int32} (hm : m_StreamReader_readChunk N sr_at sr_most sr_fault sr_fp i_c i_f t_c t_f br_at br_end br_tb br_len br_fault br_fp = some (sr_at', sr_fault', sr_fp', t_c', t_f', br_at', br_end', br_tb', br_len', br_fault', br_fp')) (sz : Nat) : tp_Cv l y_StreamReader_readChunk ws_StreamReader_readChunk rm_StreamReader_readChunk D (tp_ty cB cI) tM [.ref q_sr] [(q_sr, .inr (4, [.ref q_i, .ref q_t, .ref q_br, .int sr_at, .int sr_most, .int sr_fault, .int sr_fp])), (q_i, .inr (3, [.ref q_iB, .int i_c])), (q_iB, .inl (cB, 10000, .inl i_f)), (q_t, .inr (3, [.ref q_tB, .int t_c])), (q_tB, .inl (cB, 10000, .inl t_f)), (q_br, .inr (0, [.ref q_i, .ref q_t, .int br_at, .int br_end, .int br_tb, .long br_len, .int br_fault, .int br_fp]))] sz [(q_sr, .inr (4, [.ref q_i, .ref q_t, .ref q_br, .int sr_at', .int sr_most, .int sr_fault', .int sr_fp'])), (q_i, .inr (3, [.ref q_iB, .int i_c])), (q_iB, .inl (cB, 10000, .inl i_f)), (q_t, .inr (3, [.ref q_tB, .int t_c'])), (q_tB, .inl (cB, 10000, .inl t_f')), (q_br, .inr (0, [.ref q_i, .ref q_t, .int br_at', .int br_end', .int br_tb', .long br_len', .int br_fault', .int br_fp']))] := by
  refine Met.ofW (cc := c_StreamReader_readChunk) (maxL := 6) (ret := none) (by decide) rfl ?_
  intro p e s m args below meth c s₁ B hml hv
  obtain ⟨rfl, hv⟩ := hv
  have hw := tp_entry hv
  generalize va_A [(q_sr, .inr (4, [.ref q_i, .ref q_t, .ref q_br, .int sr_at, .int sr_most, .int sr_fault, .int sr_fp])), (q_i, .inr (3, [.ref q_iB, .int i_c])), (q_iB, .inl (cB, 10000, .inl i_f)), (q_t, .inr (3, [.ref q_tB, .int t_c])), (q_tB, .inl (cB, 10000, .inl t_f)), (q_br, .inr (0, [.ref q_i, .ref q_t, .int br_at, .int br_end, .int br_tb, .long br_len, .int br_fault, .int br_fp]))] sz = A at hw ⊢
  have hx := B.exec
  have hb := B.bytes
  have hr := B.returns
  have hts0 := atoms_spec (ws := ws_StreamReader_readChunk) B.pre
  have hts := fun w h => hts0 w (List.mem_cons_of_mem _ h)
  have hown : s.vm.findClass R_StreamReader = some m.cls := findClass_of_methodNamed B.named
  have hlocks := B.notSynchronized
  have hF : CallFix p m c c_StreamReader_readChunk 6 s _ tpG R_StreamReader := ⟨hx, hb, hml, hown, hts⟩
  have hF2 : tp_F p m c c_StreamReader_readChunk 6 s _ tpG R_StreamReader meth none := ⟨hF, hr, hlocks⟩
  have hl := lv_entry ([.ref q_sr]) (n := 6) (Nat.le_of_ble_eq_true rfl)
  rw [lg_entry_eq]
  generalize (lg_sl ([.ref q_sr]) ++ List.replicate (6 - (lg_sl ([.ref q_sr])).length) Slot.unset).toArray = ls at hl ⊢
  replace hl : lv_has ls 6 [(0, .ref q_sr)] := hl
  unfold m_StreamReader_readChunk at hm
  refine lv_aload_n hx hb d_StreamReader_readChunk_0 rfl (lv_at hl 0 rfl) ?_
  refine tp_get (v := .ref q_i) (C := R_StreamReader) (T := T_StreamReader) hx hb hts fw_StreamReader hown hw 0 rfl rfl 0 (by decide +kernel) (hts _ wd_187) rfl d_StreamReader_readChunk_1 ?_
  refine lv_aload_n hx hb d_StreamReader_readChunk_4 rfl (lv_at hl 0 rfl) ?_
  refine tp_get (v := .int sr_at) (C := R_StreamReader) (T := T_StreamReader) hx hb hts fw_StreamReader hown hw 0 rfl rfl 3 (by decide +kernel) (hts _ wd_185) rfl d_StreamReader_readChunk_5 ?_
  obtain ⟨r1, hm2, hm⟩ := tp_b1_e hm
  refine tp_calli (wr := [(q_sr, .inr (4, [.ref q_i, .ref q_t, .ref q_br, .int sr_at, .int sr_most, .int sr_fault, .int sr_fp])), (q_t, .inr (3, [.ref q_tB, .int t_c])), (q_tB, .inl (cB, 10000, .inl t_f)), (q_br, .inr (0, [.ref q_i, .ref q_t, .int br_at, .int br_end, .int br_tb, .long br_len, .int br_fault, .int br_fp]))]) (WS' := [(q_sr, .inr (4, [.ref q_i, .ref q_t, .ref q_br, .int sr_at, .int sr_most, .int sr_fault, .int sr_fp])), (q_i, .inr (3, [.ref q_iB, .int i_c])), (q_iB, .inl (cB, 10000, .inl i_f)), (q_t, .inr (3, [.ref q_tB, .int t_c])), (q_tB, .inl (cB, 10000, .inl t_f)), (q_br, .inr (0, [.ref q_i, .ref q_t, .int br_at, .int br_end, .int br_tb, .long br_len, .int br_fault, .int br_fp]))]) (va_runV (As := [.int sr_at]) (rest := []) hF (ct_Row_at (l := l) (D := D) (cB := cB) (cI := cI) (tM := tM) (q_a := q_i) (q_aB := q_iB) (a_c := i_c) (a_f := i_f) (x1 := sr_at) (r := r1) hm2 _) (cwV 1 hts (tpG_V wd_194 wd_13 wd_14 wd_3 wd_11) rfl rfl rfl ⟨rfl, yd_Row_at⟩ ⟨Nat.le_of_ble_eq_true rfl, Nat.le_of_ble_eq_true rfl⟩) ⟨tp_blind, va_recv hw.1 hw.2.1 (ci := 3) (q0 := 1) rfl rfl, tp_pre hw [1, 2] rfl rfl⟩ rfl rfl hl.1 rfl (lv_room (Nat.le_of_ble_eq_true rfl)) d_StreamReader_readChunk_8 ⟨Nat.le_of_ble_eq_true rfl, Nat.le_of_ble_eq_true rfl⟩) hw [1, 2] [0, 3, 4, 5] [0, 4, 5, 1, 2, 3] rfl rfl rfl (by decide) rfl rfl (fun H locs hw => ?_)
  refine lv_istore_n (lv' := [(1, .int r1), (0, .ref q_sr)]) hx hb d_StreamReader_readChunk_11 rfl hl (by decide +kernel) rfl (fun ls hl => ?_)
  refine lv_aload_n hx hb d_StreamReader_readChunk_12 rfl (lv_at hl 1 rfl) ?_
  refine tp_get (v := .ref q_i) (C := R_StreamReader) (T := T_StreamReader) hx hb hts fw_StreamReader hown hw 0 rfl rfl 0 (by decide +kernel) (hts _ wd_187) rfl d_StreamReader_readChunk_13 ?_
  refine lv_aload_n hx hb d_StreamReader_readChunk_16 rfl (lv_at hl 1 rfl) ?_
  refine tp_get (v := .int sr_at) (C := R_StreamReader) (T := T_StreamReader) hx hb hts fw_StreamReader hown hw 0 rfl rfl 3 (by decide +kernel) (hts _ wd_185) rfl d_StreamReader_readChunk_17 ?_
  refine lv_iconst (v := (1 : Int32)) hx hb d_StreamReader_readChunk_20 (by decide +kernel) ?_
  refine lv_iadd hx hb d_StreamReader_readChunk_21 ?_
  refine lv_iconst (v := (3 : Int32)) hx hb d_StreamReader_readChunk_22 (by decide +kernel) ?_
  obtain ⟨r3, hm4, hm⟩ := tp_b1_e hm
  refine tp_calll (wr := [(q_sr, .inr (4, [.ref q_i, .ref q_t, .ref q_br, .int sr_at, .int sr_most, .int sr_fault, .int sr_fp])), (q_t, .inr (3, [.ref q_tB, .int t_c])), (q_tB, .inl (cB, 10000, .inl t_f)), (q_br, .inr (0, [.ref q_i, .ref q_t, .int br_at, .int br_end, .int br_tb, .long br_len, .int br_fault, .int br_fp]))]) (WS' := [(q_sr, .inr (4, [.ref q_i, .ref q_t, .ref q_br, .int sr_at, .int sr_most, .int sr_fault, .int sr_fp])), (q_i, .inr (3, [.ref q_iB, .int i_c])), (q_iB, .inl (cB, 10000, .inl i_f)), (q_t, .inr (3, [.ref q_tB, .int t_c])), (q_tB, .inl (cB, 10000, .inl t_f)), (q_br, .inr (0, [.ref q_i, .ref q_t, .int br_at, .int br_end, .int br_tb, .long br_len, .int br_fault, .int br_fp]))]) (va_runV (As := [.int (sr_at + (1 : Int32)), .int (3 : Int32)]) (rest := []) hF (ct_Row_numberAt (l := l) (D := D) (cB := cB) (cI := cI) (tM := tM) (q_a := q_i) (q_aB := q_iB) (a_c := i_c) (a_f := i_f) (x1 := (sr_at + (1 : Int32))) (x2 := (3 : Int32)) (N := N) (r := r3) hm4 _) (cwV 2 hts (tpG_V wd_198 wd_33 wd_34 wd_3 wd_31) rfl rfl rfl ⟨rfl, yd_Row_numberAt⟩ ⟨Nat.le_of_ble_eq_true rfl, Nat.le_of_ble_eq_true rfl⟩) ⟨tp_blind, va_recv hw.1 hw.2.1 (ci := 3) (q0 := 1) rfl rfl, tp_pre hw [1, 2] rfl rfl⟩ rfl rfl hl.1 rfl (lv_room (Nat.le_of_ble_eq_true rfl)) d_StreamReader_readChunk_23 ⟨Nat.le_of_ble_eq_true rfl, Nat.le_of_ble_eq_true rfl⟩) hw [1, 2] [0, 3, 4, 5] [0, 4, 5, 1, 2, 3] rfl rfl rfl (by decide) rfl rfl (fun H locs hw => ?_)
  refine lv_l2i (v := (Int64.toInt32 r3)) hx hb d_StreamReader_readChunk_26 rfl ?_
  refine lv_istore_n (lv' := [(2, .int (Int64.toInt32 r3)), (1, .int r1), (0, .ref q_sr)]) hx hb d_StreamReader_readChunk_27 rfl hl (by decide +kernel) rfl (fun ls hl => ?_)
  refine lv_aload_n hx hb d_StreamReader_readChunk_28 rfl (lv_at hl 2 rfl) ?_
  refine lv_iload_n hx hb d_StreamReader_readChunk_29 rfl (lv_at hl 1 rfl) ?_
  refine lv_iload_n hx hb d_StreamReader_readChunk_30 rfl (lv_at hl 0 rfl) ?_
  obtain ⟨sr_fault_5, sr_fp_6, hm7, hm⟩ := tp_b2_e hm
  refine tp_callv (wr := []) (WS' := [(q_sr, .inr (4, [.ref q_i, .ref q_t, .ref q_br, .int sr_at, .int sr_most, .int sr_fault_5, .int sr_fp_6])), (q_i, .inr (3, [.ref q_iB, .int i_c])), (q_iB, .inl (cB, 10000, .inl i_f)), (q_t, .inr (3, [.ref q_tB, .int t_c])), (q_tB, .inl (cB, 10000, .inl t_f)), (q_br, .inr (0, [.ref q_i, .ref q_t, .int br_at, .int br_end, .int br_tb, .long br_len, .int br_fault, .int br_fp]))]) (va_runV (As := [.int r1, .int (Int64.toInt32 r3)]) (rest := []) hF (ct_StreamReader_checkHead (l := l) (D := D) (cB := cB) (cI := cI) (tM := tM) (q_sr := q_sr) (q_i := q_i) (q_iB := q_iB) (q_t := q_t) (q_tB := q_tB) (q_br := q_br) (sr_at := sr_at) (sr_most := sr_most) (sr_fault := sr_fault) (sr_fp := sr_fp) (i_c := i_c) (i_f := i_f) (t_c := t_c) (t_f := t_f) (br_at := br_at) (br_end := br_end) (br_tb := br_tb) (br_len := br_len) (br_fault := br_fault) (br_fp := br_fp) (x1 := r1) (x2 := (Int64.toInt32 r3)) (sr_fault' := sr_fault_5) (sr_fp' := sr_fp_6) hm7 _) (cwV 2 hts (tpG_V wd_201 wd_202 wd_203 wd_189 wd_200) rfl rfl rfl ⟨rfl, yd_StreamReader_checkHead⟩ ⟨Nat.le_of_ble_eq_true rfl, Nat.le_of_ble_eq_true rfl⟩) ⟨tp_blind, va_recv hw.1 hw.2.1 (ci := 4) (q0 := 0) rfl rfl, tp_pre hw [0, 1, 2, 3, 4, 5] rfl rfl⟩ rfl rfl hl.1 rfl (lv_room (Nat.le_of_ble_eq_true rfl)) d_StreamReader_readChunk_31 ⟨Nat.le_of_ble_eq_true rfl, Nat.le_of_ble_eq_true rfl⟩) hw [0, 1, 2, 3, 4, 5] [] [0, 1, 2, 3, 4, 5] rfl rfl rfl (by decide) rfl rfl (fun H locs hw => ?_)
  refine lv_aload_n hx hb d_StreamReader_readChunk_34 rfl (lv_at hl 2 rfl) ?_
  refine tp_get (v := .int sr_fault_5) (C := R_StreamReader) (T := T_StreamReader) hx hb hts fw_StreamReader hown hw 0 rfl rfl 5 (by decide +kernel) (hts _ wd_183) rfl d_StreamReader_readChunk_35 ?_
  refine lv_if_eq (tgt := 42) hx hb d_StreamReader_readChunk_38 (by decide +kernel) (fun hc8 => ?_) (fun hc8 => ?_)
  · replace hm := tp_it hc8 hm
    refine lv_aload_n hx hb d_StreamReader_readChunk_42 rfl (lv_at hl 2 rfl) ?_
    refine tp_get (v := .int sr_at) (C := R_StreamReader) (T := T_StreamReader) hx hb hts fw_StreamReader hown hw 0 rfl rfl 3 (by decide +kernel) (hts _ wd_185) rfl d_StreamReader_readChunk_43 ?_
    refine lv_iconst (v := (4 : Int32)) hx hb d_StreamReader_readChunk_46 (by decide +kernel) ?_
    refine lv_iadd hx hb d_StreamReader_readChunk_47 ?_
    refine lv_istore_n (lv' := [(3, .int (sr_at + (4 : Int32))), (2, .int (Int64.toInt32 r3)), (1, .int r1), (0, .ref q_sr)]) hx hb d_StreamReader_readChunk_48 rfl hl (by decide +kernel) rfl (fun ls hl => ?_)
    refine lv_iload_n hx hb d_StreamReader_readChunk_49 rfl (lv_at hl 0 rfl) ?_
    refine lv_iload_n hx hb d_StreamReader_readChunk_50 rfl (lv_at hl 1 rfl) ?_
    refine lv_iadd hx hb d_StreamReader_readChunk_51 ?_
    obtain ⟨y9, ey9, hm⟩ := tp_b0_e hm
    refine tp_topi ey9 ?_
    refine lv_istore (lv' := [(4, .int y9), (3, .int (sr_at + (4 : Int32))), (2, .int (Int64.toInt32 r3)), (1, .int r1), (0, .ref q_sr)]) hx hb d_StreamReader_readChunk_52 hl (by decide +kernel) rfl (fun ls hl => ?_)
    refine lv_aload_n hx hb d_StreamReader_readChunk_54 rfl (lv_at hl 4 rfl) ?_
    refine tp_get (v := .ref q_t) (C := R_StreamReader) (T := T_StreamReader) hx hb hts fw_StreamReader hown hw 0 rfl rfl 1 (by decide +kernel) (hts _ wd_196) rfl d_StreamReader_readChunk_55 ?_
    refine tp_getN (v := .int t_c) (C := R_Row) (T := T_Row) hx hb hts fw_Row hown hw 3 rfl rfl 1 (by decide +kernel) nw_7 rfl d_StreamReader_readChunk_58 ?_
    refine lv_istore (lv' := [(5, .int t_c), (4, .int y9), (3, .int (sr_at + (4 : Int32))), (2, .int (Int64.toInt32 r3)), (1, .int r1), (0, .ref q_sr)]) hx hb d_StreamReader_readChunk_61 hl (by decide +kernel) rfl (fun ls hl => ?_)
    refine lv_iload_n hx hb d_StreamReader_readChunk_63 rfl (lv_at hl 4 rfl) ?_
    refine lv_sipush (v := (255 : Int32)) hx hb d_StreamReader_readChunk_64 (by decide +kernel) ?_
    refine lv_icmp_ne (tgt := 80) hx hb d_StreamReader_readChunk_67 (by decide +kernel) (fun hc10 => ?_) (fun hc10 => ?_)
    · replace hm := tp_if hc10 hm
      refine lv_iload_n hx hb d_StreamReader_readChunk_80 rfl (lv_at hl 4 rfl) ?_
      refine lv_if_ne (tgt := 122) hx hb d_StreamReader_readChunk_81 (by decide +kernel) (fun hc11 => ?_) (fun hc11 => ?_)
      · replace hm := tp_if hc11 hm
        refine lv_iload_n hx hb d_StreamReader_readChunk_122 rfl (lv_at hl 4 rfl) ?_
        refine lv_iconst (v := (1 : Int32)) hx hb d_StreamReader_readChunk_123 (by decide +kernel) ?_
        refine lv_icmp_ne (tgt := 143) hx hb d_StreamReader_readChunk_124 (by decide +kernel) (fun hc12 => ?_) (fun hc12 => ?_)
        · replace hm := tp_if hc12 hm
          refine lv_aload_n hx hb d_StreamReader_readChunk_143 rfl (lv_at hl 5 rfl) ?_
          refine lv_iload hx hb d_StreamReader_readChunk_144 (lv_at hl 1 rfl) ?_
          refine tp_put (v := .int y9) (C := R_StreamReader) (T := T_StreamReader) (WS' := [(q_sr, .inr (4, [.ref q_i, .ref q_t, .ref q_br, .int y9, .int sr_most, .int sr_fault_5, .int sr_fp_6])), (q_i, .inr (3, [.ref q_iB, .int i_c])), (q_iB, .inl (cB, 10000, .inl i_f)), (q_t, .inr (3, [.ref q_tB, .int t_c])), (q_tB, .inl (cB, 10000, .inl t_f)), (q_br, .inr (0, [.ref q_i, .ref q_t, .int br_at, .int br_end, .int br_tb, .long br_len, .int br_fault, .int br_fp]))]) hx hb hts fw_StreamReader ty_StreamReader ty_StreamReader_ok nm_StreamReader hown hw 0 rfl rfl 3 (by decide +kernel) (hts _ wd_185) rfl rfl rfl (Nat.le_of_ble_eq_true rfl) rfl d_StreamReader_readChunk_146 (fun H locs hw => ?_)
          obtain ⟨rfl, rfl, rfl, rfl, rfl, rfl, rfl, rfl, rfl, rfl, rfl⟩ := tp_inj11 hm
          exact tp_vret () hx hb hr hlocks hw d_StreamReader_readChunk_149
        · replace hm := tp_it hc12 hm
          refine lv_aload_n hx hb d_StreamReader_readChunk_127 rfl (lv_at hl 5 rfl) ?_
          refine lv_iload_n hx hb d_StreamReader_readChunk_128 rfl (lv_at hl 2 rfl) ?_
          refine lv_iconst (v := (4 : Int32)) hx hb d_StreamReader_readChunk_129 (by decide +kernel) ?_
          refine lv_iadd hx hb d_StreamReader_readChunk_130 ?_
          refine lv_iload hx hb d_StreamReader_readChunk_131 (lv_at hl 1 rfl) ?_
          obtain ⟨sr_fault_13, sr_fp_14, t_c_15, t_f_16, hm17, hm⟩ := tp_b4_e hm
          refine tp_callv (wr := []) (WS' := [(q_sr, .inr (4, [.ref q_i, .ref q_t, .ref q_br, .int sr_at, .int sr_most, .int sr_fault_13, .int sr_fp_14])), (q_i, .inr (3, [.ref q_iB, .int i_c])), (q_iB, .inl (cB, 10000, .inl i_f)), (q_t, .inr (3, [.ref q_tB, .int t_c_15])), (q_tB, .inl (cB, 10000, .inl t_f_16)), (q_br, .inr (0, [.ref q_i, .ref q_t, .int br_at, .int br_end, .int br_tb, .long br_len, .int br_fault, .int br_fp]))]) (va_runV (As := [.int ((sr_at + (4 : Int32)) + (4 : Int32)), .int y9]) (rest := []) hF (ct_StreamReader_readPlain (l := l) (D := D) (cB := cB) (cI := cI) (tM := tM) (q_sr := q_sr) (q_i := q_i) (q_iB := q_iB) (q_t := q_t) (q_tB := q_tB) (q_br := q_br) (sr_at := sr_at) (sr_most := sr_most) (sr_fault := sr_fault_5) (sr_fp := sr_fp_6) (i_c := i_c) (i_f := i_f) (t_c := t_c) (t_f := t_f) (br_at := br_at) (br_end := br_end) (br_tb := br_tb) (br_len := br_len) (br_fault := br_fault) (br_fp := br_fp) (x1 := ((sr_at + (4 : Int32)) + (4 : Int32))) (x2 := y9) (N := N) (sr_fault' := sr_fault_13) (sr_fp' := sr_fp_14) (t_c' := t_c_15) (t_f' := t_f_16) hm17 _) (cwV 2 hts (tpG_V wd_205 wd_206 wd_207 wd_189 wd_204) rfl rfl rfl ⟨rfl, yd_StreamReader_readPlain⟩ ⟨Nat.le_of_ble_eq_true rfl, Nat.le_of_ble_eq_true rfl⟩) ⟨tp_blind, va_recv hw.1 hw.2.1 (ci := 4) (q0 := 0) rfl rfl, tp_pre hw [0, 1, 2, 3, 4, 5] rfl rfl⟩ rfl rfl hl.1 rfl (lv_room (Nat.le_of_ble_eq_true rfl)) d_StreamReader_readChunk_133 ⟨Nat.le_of_ble_eq_true rfl, Nat.le_of_ble_eq_true rfl⟩) hw [0, 1, 2, 3, 4, 5] [] [0, 1, 2, 3, 4, 5] rfl rfl rfl (by decide) rfl rfl (fun H locs hw => ?_)
          refine lv_aload_n hx hb d_StreamReader_readChunk_136 rfl (lv_at hl 5 rfl) ?_
          refine lv_iload_n hx hb d_StreamReader_readChunk_137 rfl (lv_at hl 2 rfl) ?_
          refine lv_iload hx hb d_StreamReader_readChunk_138 (lv_at hl 0 rfl) ?_
          obtain ⟨sr_fault_18, sr_fp_19, hm20, hm⟩ := tp_b2_e hm
          refine tp_callv (wr := []) (WS' := [(q_sr, .inr (4, [.ref q_i, .ref q_t, .ref q_br, .int sr_at, .int sr_most, .int sr_fault_18, .int sr_fp_19])), (q_i, .inr (3, [.ref q_iB, .int i_c])), (q_iB, .inl (cB, 10000, .inl i_f)), (q_t, .inr (3, [.ref q_tB, .int t_c_15])), (q_tB, .inl (cB, 10000, .inl t_f_16)), (q_br, .inr (0, [.ref q_i, .ref q_t, .int br_at, .int br_end, .int br_tb, .long br_len, .int br_fault, .int br_fp]))]) (va_runV (As := [.int (sr_at + (4 : Int32)), .int t_c]) (rest := []) hF (ct_StreamReader_checkSum (l := l) (D := D) (cB := cB) (cI := cI) (tM := tM) (q_sr := q_sr) (q_i := q_i) (q_iB := q_iB) (q_t := q_t) (q_tB := q_tB) (q_br := q_br) (sr_at := sr_at) (sr_most := sr_most) (sr_fault := sr_fault_13) (sr_fp := sr_fp_14) (i_c := i_c) (i_f := i_f) (t_c := t_c_15) (t_f := t_f_16) (br_at := br_at) (br_end := br_end) (br_tb := br_tb) (br_len := br_len) (br_fault := br_fault) (br_fp := br_fp) (x1 := (sr_at + (4 : Int32))) (x2 := t_c) (N := N) (sr_fault' := sr_fault_18) (sr_fp' := sr_fp_19) hm20 _) (cwV 2 hts (tpG_V wd_209 wd_210 wd_211 wd_189 wd_208) rfl rfl rfl ⟨rfl, yd_StreamReader_checkSum⟩ ⟨Nat.le_of_ble_eq_true rfl, Nat.le_of_ble_eq_true rfl⟩) ⟨tp_blind, va_recv hw.1 hw.2.1 (ci := 4) (q0 := 0) rfl rfl, tp_pre hw [0, 1, 2, 3, 4, 5] rfl rfl⟩ rfl rfl hl.1 rfl (lv_room (Nat.le_of_ble_eq_true rfl)) d_StreamReader_readChunk_140 ⟨Nat.le_of_ble_eq_true rfl, Nat.le_of_ble_eq_true rfl⟩) hw [0, 1, 2, 3, 4, 5] [] [0, 1, 2, 3, 4, 5] rfl rfl rfl (by decide) rfl rfl (fun H locs hw => ?_)
          refine lv_aload_n hx hb d_StreamReader_readChunk_143 rfl (lv_at hl 5 rfl) ?_
          refine lv_iload hx hb d_StreamReader_readChunk_144 (lv_at hl 1 rfl) ?_
          refine tp_put (v := .int y9) (C := R_StreamReader) (T := T_StreamReader) (WS' := [(q_sr, .inr (4, [.ref q_i, .ref q_t, .ref q_br, .int y9, .int sr_most, .int sr_fault_18, .int sr_fp_19])), (q_i, .inr (3, [.ref q_iB, .int i_c])), (q_iB, .inl (cB, 10000, .inl i_f)), (q_t, .inr (3, [.ref q_tB, .int t_c_15])), (q_tB, .inl (cB, 10000, .inl t_f_16)), (q_br, .inr (0, [.ref q_i, .ref q_t, .int br_at, .int br_end, .int br_tb, .long br_len, .int br_fault, .int br_fp]))]) hx hb hts fw_StreamReader ty_StreamReader ty_StreamReader_ok nm_StreamReader hown hw 0 rfl rfl 3 (by decide +kernel) (hts _ wd_185) rfl rfl rfl (Nat.le_of_ble_eq_true rfl) rfl d_StreamReader_readChunk_146 (fun H locs hw => ?_)
          obtain ⟨rfl, rfl, rfl, rfl, rfl, rfl, rfl, rfl, rfl, rfl, rfl⟩ := tp_inj11 hm
          exact tp_vret () hx hb hr hlocks hw d_StreamReader_readChunk_149
      · replace hm := tp_it hc11 hm
        refine lv_aload_n hx hb d_StreamReader_readChunk_84 rfl (lv_at hl 5 rfl) ?_
        refine tp_get (v := .ref q_br) (C := R_StreamReader) (T := T_StreamReader) hx hb hts fw_StreamReader hown hw 0 rfl rfl 2 (by decide +kernel) (hts _ wd_195) rfl d_StreamReader_readChunk_85 ?_
        refine lv_iload_n hx hb d_StreamReader_readChunk_88 rfl (lv_at hl 2 rfl) ?_
        refine lv_iconst (v := (4 : Int32)) hx hb d_StreamReader_readChunk_89 (by decide +kernel) ?_
        refine lv_iadd hx hb d_StreamReader_readChunk_90 ?_
        refine lv_iload hx hb d_StreamReader_readChunk_91 (lv_at hl 1 rfl) ?_
        refine lv_aload_n hx hb d_StreamReader_readChunk_93 rfl (lv_at hl 5 rfl) ?_
        refine tp_get (v := .int sr_most) (C := R_StreamReader) (T := T_StreamReader) hx hb hts fw_StreamReader hown hw 0 rfl rfl 4 (by decide +kernel) (hts _ wd_186) rfl d_StreamReader_readChunk_94 ?_
        refine lv_iload hx hb d_StreamReader_readChunk_97 (lv_at hl 0 rfl) ?_
        refine lv_isub hx hb d_StreamReader_readChunk_99 ?_
        refine lv_ldc (v := (65536 : Int32)) hx hb hown (hts _ wd_212) d_StreamReader_readChunk_100 ?_
        refine va_mmin hx hb (hml.trans hl.1.symm) hown (hts _ wd_213) (hts _ wd_53) (hts _ wd_49) (hts _ wd_54) (Nat.le_of_ble_eq_true rfl) (Nat.le_of_ble_eq_true rfl) (Nat.le_of_ble_eq_true rfl) (Nat.le_of_ble_eq_true rfl) d_StreamReader_readChunk_102 ?_
        obtain ⟨br_at_21, br_end_22, br_tb_23, br_len_24, br_fault_25, br_fp_26, t_c_27, t_f_28, hm29, hm⟩ := tp_b8_e hm
        refine tp_callv (wr := [(q_sr, .inr (4, [.ref q_i, .ref q_t, .ref q_br, .int sr_at, .int sr_most, .int sr_fault_5, .int sr_fp_6]))]) (WS' := [(q_sr, .inr (4, [.ref q_i, .ref q_t, .ref q_br, .int sr_at, .int sr_most, .int sr_fault_5, .int sr_fp_6])), (q_i, .inr (3, [.ref q_iB, .int i_c])), (q_iB, .inl (cB, 10000, .inl i_f)), (q_t, .inr (3, [.ref q_tB, .int t_c_27])), (q_tB, .inl (cB, 10000, .inl t_f_28)), (q_br, .inr (0, [.ref q_i, .ref q_t, .int br_at_21, .int br_end_22, .int br_tb_23, .long br_len_24, .int br_fault_25, .int br_fp_26]))]) (va_runV (As := [.int ((sr_at + (4 : Int32)) + (4 : Int32)), .int y9, .int (if (65536 : Int32) < (sr_most - t_c) then (65536 : Int32) else (sr_most - t_c))]) (rest := []) hF (ct_BlockReader_readBlock (l := l) (D := D) (cB := cB) (cI := cI) (tM := tM) (q_br := q_br) (q_i := q_i) (q_iB := q_iB) (q_t := q_t) (q_tB := q_tB) (br_at := br_at) (br_end := br_end) (br_tb := br_tb) (br_len := br_len) (br_fault := br_fault) (br_fp := br_fp) (i_c := i_c) (i_f := i_f) (t_c := t_c) (t_f := t_f) (x1 := ((sr_at + (4 : Int32)) + (4 : Int32))) (x2 := y9) (x3 := (if (65536 : Int32) < (sr_most - t_c) then (65536 : Int32) else (sr_most - t_c))) (N := N) (br_at' := br_at_21) (br_end' := br_end_22) (br_tb' := br_tb_23) (br_len' := br_len_24) (br_fault' := br_fault_25) (br_fp' := br_fp_26) (t_c' := t_c_27) (t_f' := t_f_28) hm29 _) (cwV 3 hts (tpG_V wd_215 wd_216 wd_217 wd_144 wd_214) rfl rfl rfl ⟨rfl, yd_BlockReader_readBlock⟩ ⟨Nat.le_of_ble_eq_true rfl, Nat.le_of_ble_eq_true rfl⟩) ⟨tp_blind, va_recv hw.1 hw.2.1 (ci := 0) (q0 := 5) rfl rfl, tp_pre hw [5, 1, 2, 3, 4] rfl rfl⟩ rfl rfl hl.1 rfl (lv_room (Nat.le_of_ble_eq_true rfl)) d_StreamReader_readChunk_105 ⟨Nat.le_of_ble_eq_true rfl, Nat.le_of_ble_eq_true rfl⟩) hw [5, 1, 2, 3, 4] [0] [0, 2, 3, 4, 5, 1] rfl rfl rfl (by decide) rfl rfl (fun H locs hw => ?_)
        refine lv_aload_n hx hb d_StreamReader_readChunk_108 rfl (lv_at hl 5 rfl) ?_
        obtain ⟨sr_fault_30, sr_fp_31, hm32, hm⟩ := tp_b2_e hm
        refine tp_callv (wr := []) (WS' := [(q_sr, .inr (4, [.ref q_i, .ref q_t, .ref q_br, .int sr_at, .int sr_most, .int sr_fault_30, .int sr_fp_31])), (q_i, .inr (3, [.ref q_iB, .int i_c])), (q_iB, .inl (cB, 10000, .inl i_f)), (q_t, .inr (3, [.ref q_tB, .int t_c_27])), (q_tB, .inl (cB, 10000, .inl t_f_28)), (q_br, .inr (0, [.ref q_i, .ref q_t, .int br_at_21, .int br_end_22, .int br_tb_23, .long br_len_24, .int br_fault_25, .int br_fp_26]))]) (va_runV (As := []) (rest := []) hF (ct_StreamReader_takeFaultOfBlock (l := l) (D := D) (cB := cB) (cI := cI) (tM := tM) (q_sr := q_sr) (q_i := q_i) (q_iB := q_iB) (q_t := q_t) (q_tB := q_tB) (q_br := q_br) (sr_at := sr_at) (sr_most := sr_most) (sr_fault := sr_fault_5) (sr_fp := sr_fp_6) (i_c := i_c) (i_f := i_f) (t_c := t_c_27) (t_f := t_f_28) (br_at := br_at_21) (br_end := br_end_22) (br_tb := br_tb_23) (br_len := br_len_24) (br_fault := br_fault_25) (br_fp := br_fp_26) (sr_fault' := sr_fault_30) (sr_fp' := sr_fp_31) hm32 _) (cwV 0 hts (tpG_V wd_219 wd_220 wd_221 wd_189 wd_218) rfl rfl rfl ⟨rfl, yd_StreamReader_takeFaultOfBlock⟩ ⟨Nat.le_of_ble_eq_true rfl, Nat.le_of_ble_eq_true rfl⟩) ⟨tp_blind, va_recv hw.1 hw.2.1 (ci := 4) (q0 := 0) rfl rfl, tp_pre hw [0, 1, 2, 3, 4, 5] rfl rfl⟩ rfl rfl hl.1 rfl (lv_room (Nat.le_of_ble_eq_true rfl)) d_StreamReader_readChunk_109 ⟨Nat.le_of_ble_eq_true rfl, Nat.le_of_ble_eq_true rfl⟩) hw [0, 1, 2, 3, 4, 5] [] [0, 1, 2, 3, 4, 5] rfl rfl rfl (by decide) rfl rfl (fun H locs hw => ?_)
        refine lv_aload_n hx hb d_StreamReader_readChunk_112 rfl (lv_at hl 5 rfl) ?_
        refine lv_iload_n hx hb d_StreamReader_readChunk_113 rfl (lv_at hl 2 rfl) ?_
        refine lv_iload hx hb d_StreamReader_readChunk_114 (lv_at hl 0 rfl) ?_
        obtain ⟨sr_fault_33, sr_fp_34, hm35, hm⟩ := tp_b2_e hm
        refine tp_callv (wr := []) (WS' := [(q_sr, .inr (4, [.ref q_i, .ref q_t, .ref q_br, .int sr_at, .int sr_most, .int sr_fault_33, .int sr_fp_34])), (q_i, .inr (3, [.ref q_iB, .int i_c])), (q_iB, .inl (cB, 10000, .inl i_f)), (q_t, .inr (3, [.ref q_tB, .int t_c_27])), (q_tB, .inl (cB, 10000, .inl t_f_28)), (q_br, .inr (0, [.ref q_i, .ref q_t, .int br_at_21, .int br_end_22, .int br_tb_23, .long br_len_24, .int br_fault_25, .int br_fp_26]))]) (va_runV (As := [.int (sr_at + (4 : Int32)), .int t_c]) (rest := []) hF (ct_StreamReader_checkSum (l := l) (D := D) (cB := cB) (cI := cI) (tM := tM) (q_sr := q_sr) (q_i := q_i) (q_iB := q_iB) (q_t := q_t) (q_tB := q_tB) (q_br := q_br) (sr_at := sr_at) (sr_most := sr_most) (sr_fault := sr_fault_30) (sr_fp := sr_fp_31) (i_c := i_c) (i_f := i_f) (t_c := t_c_27) (t_f := t_f_28) (br_at := br_at_21) (br_end := br_end_22) (br_tb := br_tb_23) (br_len := br_len_24) (br_fault := br_fault_25) (br_fp := br_fp_26) (x1 := (sr_at + (4 : Int32))) (x2 := t_c) (N := N) (sr_fault' := sr_fault_33) (sr_fp' := sr_fp_34) hm35 _) (cwV 2 hts (tpG_V wd_209 wd_210 wd_211 wd_189 wd_208) rfl rfl rfl ⟨rfl, yd_StreamReader_checkSum⟩ ⟨Nat.le_of_ble_eq_true rfl, Nat.le_of_ble_eq_true rfl⟩) ⟨tp_blind, va_recv hw.1 hw.2.1 (ci := 4) (q0 := 0) rfl rfl, tp_pre hw [0, 1, 2, 3, 4, 5] rfl rfl⟩ rfl rfl hl.1 rfl (lv_room (Nat.le_of_ble_eq_true rfl)) d_StreamReader_readChunk_116 ⟨Nat.le_of_ble_eq_true rfl, Nat.le_of_ble_eq_true rfl⟩) hw [0, 1, 2, 3, 4, 5] [] [0, 1, 2, 3, 4, 5] rfl rfl rfl (by decide) rfl rfl (fun H locs hw => ?_)
        refine lv_goto (tgt := 143) hx hb d_StreamReader_readChunk_119 (by decide +kernel) ?_
        refine lv_aload_n hx hb d_StreamReader_readChunk_143 rfl (lv_at hl 5 rfl) ?_
        refine lv_iload hx hb d_StreamReader_readChunk_144 (lv_at hl 1 rfl) ?_
        refine tp_put (v := .int y9) (C := R_StreamReader) (T := T_StreamReader) (WS' := [(q_sr, .inr (4, [.ref q_i, .ref q_t, .ref q_br, .int y9, .int sr_most, .int sr_fault_33, .int sr_fp_34])), (q_i, .inr (3, [.ref q_iB, .int i_c])), (q_iB, .inl (cB, 10000, .inl i_f)), (q_t, .inr (3, [.ref q_tB, .int t_c_27])), (q_tB, .inl (cB, 10000, .inl t_f_28)), (q_br, .inr (0, [.ref q_i, .ref q_t, .int br_at_21, .int br_end_22, .int br_tb_23, .long br_len_24, .int br_fault_25, .int br_fp_26]))]) hx hb hts fw_StreamReader ty_StreamReader ty_StreamReader_ok nm_StreamReader hown hw 0 rfl rfl 3 (by decide +kernel) (hts _ wd_185) rfl rfl rfl (Nat.le_of_ble_eq_true rfl) rfl d_StreamReader_readChunk_146 (fun H locs hw => ?_)
        obtain ⟨rfl, rfl, rfl, rfl, rfl, rfl, rfl, rfl, rfl, rfl, rfl⟩ := tp_inj11 hm
        exact tp_vret () hx hb hr hlocks hw d_StreamReader_readChunk_149
    · replace hm := tp_it hc10 hm
      refine lv_aload_n hx hb d_StreamReader_readChunk_70 rfl (lv_at hl 5 rfl) ?_
      refine lv_iload_n hx hb d_StreamReader_readChunk_71 rfl (lv_at hl 2 rfl) ?_
      refine lv_iload hx hb d_StreamReader_readChunk_72 (lv_at hl 1 rfl) ?_
      obtain ⟨sr_fault_36, sr_fp_37, hm38, hm⟩ := tp_b2_e hm
      refine tp_callv (wr := []) (WS' := [(q_sr, .inr (4, [.ref q_i, .ref q_t, .ref q_br, .int sr_at, .int sr_most, .int sr_fault_36, .int sr_fp_37])), (q_i, .inr (3, [.ref q_iB, .int i_c])), (q_iB, .inl (cB, 10000, .inl i_f)), (q_t, .inr (3, [.ref q_tB, .int t_c])), (q_tB, .inl (cB, 10000, .inl t_f)), (q_br, .inr (0, [.ref q_i, .ref q_t, .int br_at, .int br_end, .int br_tb, .long br_len, .int br_fault, .int br_fp]))]) (va_runV (As := [.int (sr_at + (4 : Int32)), .int y9]) (rest := []) hF (ct_StreamReader_checkMark (l := l) (D := D) (cB := cB) (cI := cI) (tM := tM) (q_sr := q_sr) (q_i := q_i) (q_iB := q_iB) (q_t := q_t) (q_tB := q_tB) (q_br := q_br) (sr_at := sr_at) (sr_most := sr_most) (sr_fault := sr_fault_5) (sr_fp := sr_fp_6) (i_c := i_c) (i_f := i_f) (t_c := t_c) (t_f := t_f) (br_at := br_at) (br_end := br_end) (br_tb := br_tb) (br_len := br_len) (br_fault := br_fault) (br_fp := br_fp) (x1 := (sr_at + (4 : Int32))) (x2 := y9) (N := N) (sr_fault' := sr_fault_36) (sr_fp' := sr_fp_37) hm38 _) (cwV 2 hts (tpG_V wd_223 wd_224 wd_225 wd_189 wd_222) rfl rfl rfl ⟨rfl, yd_StreamReader_checkMark⟩ ⟨Nat.le_of_ble_eq_true rfl, Nat.le_of_ble_eq_true rfl⟩) ⟨tp_blind, va_recv hw.1 hw.2.1 (ci := 4) (q0 := 0) rfl rfl, tp_pre hw [0, 1, 2, 3, 4, 5] rfl rfl⟩ rfl rfl hl.1 rfl (lv_room (Nat.le_of_ble_eq_true rfl)) d_StreamReader_readChunk_74 ⟨Nat.le_of_ble_eq_true rfl, Nat.le_of_ble_eq_true rfl⟩) hw [0, 1, 2, 3, 4, 5] [] [0, 1, 2, 3, 4, 5] rfl rfl rfl (by decide) rfl rfl (fun H locs hw => ?_)
      refine lv_goto (tgt := 143) hx hb d_StreamReader_readChunk_77 (by decide +kernel) ?_
      refine lv_aload_n hx hb d_StreamReader_readChunk_143 rfl (lv_at hl 5 rfl) ?_
      refine lv_iload hx hb d_StreamReader_readChunk_144 (lv_at hl 1 rfl) ?_
      refine tp_put (v := .int y9) (C := R_StreamReader) (T := T_StreamReader) (WS' := [(q_sr, .inr (4, [.ref q_i, .ref q_t, .ref q_br, .int y9, .int sr_most, .int sr_fault_36, .int sr_fp_37])), (q_i, .inr (3, [.ref q_iB, .int i_c])), (q_iB, .inl (cB, 10000, .inl i_f)), (q_t, .inr (3, [.ref q_tB, .int t_c])), (q_tB, .inl (cB, 10000, .inl t_f)), (q_br, .inr (0, [.ref q_i, .ref q_t, .int br_at, .int br_end, .int br_tb, .long br_len, .int br_fault, .int br_fp]))]) hx hb hts fw_StreamReader ty_StreamReader ty_StreamReader_ok nm_StreamReader hown hw 0 rfl rfl 3 (by decide +kernel) (hts _ wd_185) rfl rfl rfl (Nat.le_of_ble_eq_true rfl) rfl d_StreamReader_readChunk_146 (fun H locs hw => ?_)
      obtain ⟨rfl, rfl, rfl, rfl, rfl, rfl, rfl, rfl, rfl, rfl, rfl⟩ := tp_inj11 hm
      exact tp_vret () hx hb hr hlocks hw d_StreamReader_readChunk_149
  · replace hm := tp_if hc8 hm
    obtain ⟨rfl, rfl, rfl, rfl, rfl, rfl, rfl, rfl, rfl, rfl, rfl⟩ := tp_inj11 hm
    exact tp_vret () hx hb hr hlocks hw d_StreamReader_readChunk_41
end
