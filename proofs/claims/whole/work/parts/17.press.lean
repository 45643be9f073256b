abbrev rm_TP_isNoWay : Room := { frames := 0, cells := 0, slots := 0, locals := 0 }
abbrev ws_TP_isNoWay : List Cond := .code y_TP_isNoWay c_TP_isNoWay 1 (some .boolean) :: tpG
noncomputable def m_TP_isNoWay (x0 : Int32) : Option (Int32) :=
  if x0 < 0 then
    some ((1 : Int32))
  else
    if x0 ≤ (3 : Int32) then
      some ((0 : Int32))
    else
      some ((1 : Int32))
section
variable {p : Program} {l : Launch} {e : Env} {s : State} {m : MethodId} {args : Array Value} {below : List Frame} {meth : Method} {c : Code} {A : Nat → Prop} {D : va_G} {cB cI : ClassId} {tM : Nat}
set_option maxHeartbeats 4000000 in
set_option maxRecDepth 100000 in
theorem ct_TP_isNoWay {x0 : Int32} {r : Int32} (hm : m_TP_isNoWay x0 = some (r)) (sz : Nat) : tp_Ci l y_TP_isNoWay ws_TP_isNoWay rm_TP_isNoWay D (tp_ty cB cI) tM [.int x0] [] sz r [] := by
  refine Met.ofW (cc := c_TP_isNoWay) (maxL := 1) (ret := (some .boolean)) (by decide) rfl ?_
  intro p e s m args below meth c s₁ B hml hv
  obtain ⟨rfl, hv⟩ := hv
  have hw := tp_entry hv
  generalize va_A [] sz = A at hw ⊢
  have hx := B.exec
  have hb := B.bytes
  have hr := B.returns
  have hts0 := atoms_spec (ws := ws_TP_isNoWay) B.pre
  have hts := fun w h => hts0 w (List.mem_cons_of_mem _ h)
  have hown : s.vm.findClass R_TP = some m.cls := findClass_of_methodNamed B.named
  have hlocks := B.notSynchronized
  have hF : CallFix p m c c_TP_isNoWay 1 s _ tpG R_TP := ⟨hx, hb, hml, hown, hts⟩
  have hF2 : tp_F p m c c_TP_isNoWay 1 s _ tpG R_TP meth (some .boolean) := ⟨hF, hr, hlocks⟩
  have hl := lv_entry ([.int x0]) (n := 1) (Nat.le_of_ble_eq_true rfl)
  rw [lg_entry_eq]
  generalize (lg_sl ([.int x0]) ++ List.replicate (1 - (lg_sl ([.int x0])).length) Slot.unset).toArray = ls at hl ⊢
  replace hl : lv_has ls 1 [(0, .int x0)] := hl
  unfold m_TP_isNoWay at hm
  refine lv_iload_n hx hb d_TP_isNoWay_0 rfl (lv_at hl 0 rfl) ?_
  refine lv_if_lt (tgt := 9) hx hb d_TP_isNoWay_1 (by decide +kernel) (fun hc1 => ?_) (fun hc1 => ?_)
  · replace hm := tp_it hc1 hm
    refine lv_iconst (v := (1 : Int32)) hx hb d_TP_isNoWay_9 (by decide +kernel) ?_
    refine lv_goto (tgt := 14) hx hb d_TP_isNoWay_10 (by decide +kernel) ?_
    obtain rfl := tp_inj1 hm
    exact tp_zret hx hb hr hlocks rfl hw d_TP_isNoWay_14
  · replace hm := tp_if hc1 hm
    refine lv_iload_n hx hb d_TP_isNoWay_4 rfl (lv_at hl 0 rfl) ?_
    refine lv_iconst (v := (3 : Int32)) hx hb d_TP_isNoWay_5 (by decide +kernel) ?_
    refine lv_icmp_le (tgt := 13) hx hb d_TP_isNoWay_6 (by decide +kernel) (fun hc2 => ?_) (fun hc2 => ?_)
    · replace hm := tp_it hc2 hm
      refine lv_iconst (v := (0 : Int32)) hx hb d_TP_isNoWay_13 (by decide +kernel) ?_
      obtain rfl := tp_inj1 hm
      exact tp_zret hx hb hr hlocks rfl hw d_TP_isNoWay_14
    · replace hm := tp_if hc2 hm
      refine lv_iconst (v := (1 : Int32)) hx hb d_TP_isNoWay_9 (by decide +kernel) ?_
      refine lv_goto (tgt := 14) hx hb d_TP_isNoWay_10 (by decide +kernel) ?_
      obtain rfl := tp_inj1 hm
      exact tp_zret hx hb hr hlocks rfl hw d_TP_isNoWay_14
end
abbrev rm_TP_isNoMost : Room := { frames := 0, cells := 0, slots := 0, locals := 0 }
abbrev ws_TP_isNoMost : List Cond := .code y_TP_isNoMost c_TP_isNoMost 1 (some .boolean) :: tpG
noncomputable def m_TP_isNoMost (x0 : Int32) : Option (Int32) :=
  if x0 < 0 then
    some ((1 : Int32))
  else
    if x0 ≤ (10000 : Int32) then
      some ((0 : Int32))
    else
      some ((1 : Int32))
section
variable {p : Program} {l : Launch} {e : Env} {s : State} {m : MethodId} {args : Array Value} {below : List Frame} {meth : Method} {c : Code} {A : Nat → Prop} {D : va_G} {cB cI : ClassId} {tM : Nat}
set_option maxHeartbeats 4000000 in
set_option maxRecDepth 100000 in
theorem ct_TP_isNoMost {x0 : Int32} {r : Int32} (hm : m_TP_isNoMost x0 = some (r)) (sz : Nat) : tp_Ci l y_TP_isNoMost ws_TP_isNoMost rm_TP_isNoMost D (tp_ty cB cI) tM [.int x0] [] sz r [] := by
  refine Met.ofW (cc := c_TP_isNoMost) (maxL := 1) (ret := (some .boolean)) (by decide) rfl ?_
  intro p e s m args below meth c s₁ B hml hv
  obtain ⟨rfl, hv⟩ := hv
  have hw := tp_entry hv
  generalize va_A [] sz = A at hw ⊢
  have hx := B.exec
  have hb := B.bytes
  have hr := B.returns
  have hts0 := atoms_spec (ws := ws_TP_isNoMost) B.pre
  have hts := fun w h => hts0 w (List.mem_cons_of_mem _ h)
  have hown : s.vm.findClass R_TP = some m.cls := findClass_of_methodNamed B.named
  have hlocks := B.notSynchronized
  have hF : CallFix p m c c_TP_isNoMost 1 s _ tpG R_TP := ⟨hx, hb, hml, hown, hts⟩
  have hF2 : tp_F p m c c_TP_isNoMost 1 s _ tpG R_TP meth (some .boolean) := ⟨hF, hr, hlocks⟩
  have hl := lv_entry ([.int x0]) (n := 1) (Nat.le_of_ble_eq_true rfl)
  rw [lg_entry_eq]
  generalize (lg_sl ([.int x0]) ++ List.replicate (1 - (lg_sl ([.int x0])).length) Slot.unset).toArray = ls at hl ⊢
  replace hl : lv_has ls 1 [(0, .int x0)] := hl
  unfold m_TP_isNoMost at hm
  refine lv_iload_n hx hb d_TP_isNoMost_0 rfl (lv_at hl 0 rfl) ?_
  refine lv_if_lt (tgt := 11) hx hb d_TP_isNoMost_1 (by decide +kernel) (fun hc1 => ?_) (fun hc1 => ?_)
  · replace hm := tp_it hc1 hm
    refine lv_iconst (v := (1 : Int32)) hx hb d_TP_isNoMost_11 (by decide +kernel) ?_
    refine lv_goto (tgt := 16) hx hb d_TP_isNoMost_12 (by decide +kernel) ?_
    obtain rfl := tp_inj1 hm
    exact tp_zret hx hb hr hlocks rfl hw d_TP_isNoMost_16
  · replace hm := tp_if hc1 hm
    refine lv_iload_n hx hb d_TP_isNoMost_4 rfl (lv_at hl 0 rfl) ?_
    refine lv_sipush (v := (10000 : Int32)) hx hb d_TP_isNoMost_5 (by decide +kernel) ?_
    refine lv_icmp_le (tgt := 15) hx hb d_TP_isNoMost_8 (by decide +kernel) (fun hc2 => ?_) (fun hc2 => ?_)
    · replace hm := tp_it hc2 hm
      refine lv_iconst (v := (0 : Int32)) hx hb d_TP_isNoMost_15 (by decide +kernel) ?_
      obtain rfl := tp_inj1 hm
      exact tp_zret hx hb hr hlocks rfl hw d_TP_isNoMost_16
    · replace hm := tp_if hc2 hm
      refine lv_iconst (v := (1 : Int32)) hx hb d_TP_isNoMost_11 (by decide +kernel) ?_
      refine lv_goto (tgt := 16) hx hb d_TP_isNoMost_12 (by decide +kernel) ?_
      obtain rfl := tp_inj1 hm
      exact tp_zret hx hb hr hlocks rfl hw d_TP_isNoMost_16
end
abbrev rm_TP_endWriting : Room := { frames := 2, cells := 0, slots := 0, locals := 61 }
abbrev ws_TP_endWriting : List Cond := .code y_TP_endWriting c_TP_endWriting 1 (some .int) :: tpG
noncomputable def m_TP_endWriting (o_c : Int32) (o_f : Nat → Int32) (t_c : Int32) (t_f : Nat → Int32) : Option (Int32 × Int32 × (Nat → Int32)) :=
  tp_b1 (m_Row_fits t_c) fun r1 =>
  if r1 = 0 then
    some ((-1 : Int32), o_c, o_f)
  else
    tp_b2 (m_Row_become o_c o_f t_c t_f) fun a_c_4 a_f_5 =>
    some (a_c_4, a_c_4, a_f_5)
section
variable {p : Program} {l : Launch} {e : Env} {s : State} {m : MethodId} {args : Array Value} {below : List Frame} {meth : Method} {c : Code} {A : Nat → Prop} {D : va_G} {cB cI : ClassId} {tM : Nat}
set_option maxHeartbeats 4000000 in
set_option maxRecDepth 100000 in
theorem ct_TP_endWriting {q_h q_i q_iB q_o q_oB q_t q_tB q_mt q_mtb q_mtl q_bw q_sw q_br q_sr : Nat} {h_place : Int32} {i_c : Int32} {i_f : Nat → Int32} {o_c : Int32} {o_f : Nat → Int32} {t_c : Int32} {t_f : Nat → Int32} {mt_from : Int32} {mt_to : Int32} {mt_len : Int32} {mt_dist : Int32} {mt_bef : Nat → Int32} {mt_lat : Nat → Int32} {br_at : Int32} {br_end : Int32} {br_tb : Int32} {br_len : Int64} {br_fault : Int32} {br_fp : Int32} {sr_at : Int32} {sr_most : Int32} {sr_fault : Int32} {sr_fp : Int32} {r : Int32} {o_c' : Int32} {o_f' : Nat → Int32} (hm : m_TP_endWriting o_c o_f t_c t_f = some (r, o_c', o_f')) (sz : Nat) : tp_Ci l y_TP_endWriting ws_TP_endWriting rm_TP_endWriting D (tp_ty cB cI) tM [.ref q_h] [(q_h, .inr (6, [.ref q_i, .ref q_o, .ref q_t, .ref q_mt, .ref q_bw, .ref q_sw, .ref q_br, .ref q_sr, .int h_place])), (q_i, .inr (3, [.ref q_iB, .int i_c])), (q_iB, .inl (cB, 10000, .inl i_f)), (q_o, .inr (3, [.ref q_oB, .int o_c])), (q_oB, .inl (cB, 10000, .inl o_f)), (q_t, .inr (3, [.ref q_tB, .int t_c])), (q_tB, .inl (cB, 10000, .inl t_f)), (q_mt, .inr (2, [.ref q_i, .ref q_mtb, .ref q_mtl, .int mt_from, .int mt_to, .int mt_len, .int mt_dist])), (q_mtb, .inl (cI, 10000, .inl mt_bef)), (q_mtl, .inl (cI, 2048, .inl mt_lat)), (q_bw, .inr (1, [.ref q_i, .ref q_t, .ref q_mt])), (q_sw, .inr (5, [.ref q_i, .ref q_t, .ref q_bw])), (q_br, .inr (0, [.ref q_i, .ref q_t, .int br_at, .int br_end, .int br_tb, .long br_len, .int br_fault, .int br_fp])), (q_sr, .inr (4, [.ref q_i, .ref q_t, .ref q_br, .int sr_at, .int sr_most, .int sr_fault, .int sr_fp]))] sz r [(q_h, .inr (6, [.ref q_i, .ref q_o, .ref q_t, .ref q_mt, .ref q_bw, .ref q_sw, .ref q_br, .ref q_sr, .int h_place])), (q_i, .inr (3, [.ref q_iB, .int i_c])), (q_iB, .inl (cB, 10000, .inl i_f)), (q_o, .inr (3, [.ref q_oB, .int o_c'])), (q_oB, .inl (cB, 10000, .inl o_f')), (q_t, .inr (3, [.ref q_tB, .int t_c])), (q_tB, .inl (cB, 10000, .inl t_f)), (q_mt, .inr (2, [.ref q_i, .ref q_mtb, .ref q_mtl, .int mt_from, .int mt_to, .int mt_len, .int mt_dist])), (q_mtb, .inl (cI, 10000, .inl mt_bef)), (q_mtl, .inl (cI, 2048, .inl mt_lat)), (q_bw, .inr (1, [.ref q_i, .ref q_t, .ref q_mt])), (q_sw, .inr (5, [.ref q_i, .ref q_t, .ref q_bw])), (q_br, .inr (0, [.ref q_i, .ref q_t, .int br_at, .int br_end, .int br_tb, .long br_len, .int br_fault, .int br_fp])), (q_sr, .inr (4, [.ref q_i, .ref q_t, .ref q_br, .int sr_at, .int sr_most, .int sr_fault, .int sr_fp]))] := by
  refine Met.ofW (cc := c_TP_endWriting) (maxL := 1) (ret := (some .int)) (by decide) rfl ?_
  intro p e s m args below meth c s₁ B hml hv
  obtain ⟨rfl, hv⟩ := hv
  have hw := tp_entry hv
  generalize va_A [(q_h, .inr (6, [.ref q_i, .ref q_o, .ref q_t, .ref q_mt, .ref q_bw, .ref q_sw, .ref q_br, .ref q_sr, .int h_place])), (q_i, .inr (3, [.ref q_iB, .int i_c])), (q_iB, .inl (cB, 10000, .inl i_f)), (q_o, .inr (3, [.ref q_oB, .int o_c])), (q_oB, .inl (cB, 10000, .inl o_f)), (q_t, .inr (3, [.ref q_tB, .int t_c])), (q_tB, .inl (cB, 10000, .inl t_f)), (q_mt, .inr (2, [.ref q_i, .ref q_mtb, .ref q_mtl, .int mt_from, .int mt_to, .int mt_len, .int mt_dist])), (q_mtb, .inl (cI, 10000, .inl mt_bef)), (q_mtl, .inl (cI, 2048, .inl mt_lat)), (q_bw, .inr (1, [.ref q_i, .ref q_t, .ref q_mt])), (q_sw, .inr (5, [.ref q_i, .ref q_t, .ref q_bw])), (q_br, .inr (0, [.ref q_i, .ref q_t, .int br_at, .int br_end, .int br_tb, .long br_len, .int br_fault, .int br_fp])), (q_sr, .inr (4, [.ref q_i, .ref q_t, .ref q_br, .int sr_at, .int sr_most, .int sr_fault, .int sr_fp]))] sz = A at hw ⊢
  have hx := B.exec
  have hb := B.bytes
  have hr := B.returns
  have hts0 := atoms_spec (ws := ws_TP_endWriting) B.pre
  have hts := fun w h => hts0 w (List.mem_cons_of_mem _ h)
  have hown : s.vm.findClass R_TP = some m.cls := findClass_of_methodNamed B.named
  have hlocks := B.notSynchronized
  have hF : CallFix p m c c_TP_endWriting 1 s _ tpG R_TP := ⟨hx, hb, hml, hown, hts⟩
  have hF2 : tp_F p m c c_TP_endWriting 1 s _ tpG R_TP meth (some .int) := ⟨hF, hr, hlocks⟩
  have hl := lv_entry ([.ref q_h]) (n := 1) (Nat.le_of_ble_eq_true rfl)
  rw [lg_entry_eq]
  generalize (lg_sl ([.ref q_h]) ++ List.replicate (1 - (lg_sl ([.ref q_h])).length) Slot.unset).toArray = ls at hl ⊢
  replace hl : lv_has ls 1 [(0, .ref q_h)] := hl
  unfold m_TP_endWriting at hm
  refine lv_aload_n hx hb d_TP_endWriting_0 rfl (lv_at hl 0 rfl) ?_
  refine tp_get (v := .ref q_t) (C := R_TP) (T := T_TP) hx hb hts fw_TP hown hw 0 rfl rfl 2 (by decide +kernel) (hts _ wd_226) rfl d_TP_endWriting_1 ?_
  obtain ⟨r1, hm2, hm⟩ := tp_b1_e hm
  refine tp_calli (wr := [(q_h, .inr (6, [.ref q_i, .ref q_o, .ref q_t, .ref q_mt, .ref q_bw, .ref q_sw, .ref q_br, .ref q_sr, .int h_place])), (q_i, .inr (3, [.ref q_iB, .int i_c])), (q_iB, .inl (cB, 10000, .inl i_f)), (q_o, .inr (3, [.ref q_oB, .int o_c])), (q_oB, .inl (cB, 10000, .inl o_f)), (q_mt, .inr (2, [.ref q_i, .ref q_mtb, .ref q_mtl, .int mt_from, .int mt_to, .int mt_len, .int mt_dist])), (q_mtb, .inl (cI, 10000, .inl mt_bef)), (q_mtl, .inl (cI, 2048, .inl mt_lat)), (q_bw, .inr (1, [.ref q_i, .ref q_t, .ref q_mt])), (q_sw, .inr (5, [.ref q_i, .ref q_t, .ref q_bw])), (q_br, .inr (0, [.ref q_i, .ref q_t, .int br_at, .int br_end, .int br_tb, .long br_len, .int br_fault, .int br_fp])), (q_sr, .inr (4, [.ref q_i, .ref q_t, .ref q_br, .int sr_at, .int sr_most, .int sr_fault, .int sr_fp]))]) (WS' := [(q_h, .inr (6, [.ref q_i, .ref q_o, .ref q_t, .ref q_mt, .ref q_bw, .ref q_sw, .ref q_br, .ref q_sr, .int h_place])), (q_i, .inr (3, [.ref q_iB, .int i_c])), (q_iB, .inl (cB, 10000, .inl i_f)), (q_o, .inr (3, [.ref q_oB, .int o_c])), (q_oB, .inl (cB, 10000, .inl o_f)), (q_t, .inr (3, [.ref q_tB, .int t_c])), (q_tB, .inl (cB, 10000, .inl t_f)), (q_mt, .inr (2, [.ref q_i, .ref q_mtb, .ref q_mtl, .int mt_from, .int mt_to, .int mt_len, .int mt_dist])), (q_mtb, .inl (cI, 10000, .inl mt_bef)), (q_mtl, .inl (cI, 2048, .inl mt_lat)), (q_bw, .inr (1, [.ref q_i, .ref q_t, .ref q_mt])), (q_sw, .inr (5, [.ref q_i, .ref q_t, .ref q_bw])), (q_br, .inr (0, [.ref q_i, .ref q_t, .int br_at, .int br_end, .int br_tb, .long br_len, .int br_fault, .int br_fp])), (q_sr, .inr (4, [.ref q_i, .ref q_t, .ref q_br, .int sr_at, .int sr_most, .int sr_fault, .int sr_fp]))]) (va_runV (As := []) (rest := []) hF (ct_Row_fits (l := l) (D := D) (cB := cB) (cI := cI) (tM := tM) (q_a := q_t) (q_aB := q_tB) (a_c := t_c) (a_f := t_f) (r := r1) hm2 _) (cwV 0 hts (tpG_V wd_227 wd_17 wd_18 wd_3 wd_15) rfl rfl rfl ⟨rfl, yd_Row_fits⟩ ⟨Nat.le_of_ble_eq_true rfl, Nat.le_of_ble_eq_true rfl⟩) ⟨tp_blind, va_recv hw.1 hw.2.1 (ci := 3) (q0 := 5) rfl rfl, tp_pre hw [5, 6] rfl rfl⟩ rfl rfl hl.1 rfl (lv_room (Nat.le_of_ble_eq_true rfl)) d_TP_endWriting_4 ⟨Nat.le_of_ble_eq_true rfl, Nat.le_of_ble_eq_true rfl⟩) hw [5, 6] [0, 1, 2, 3, 4, 7, 8, 9, 10, 11, 12, 13] [0, 1, 2, 3, 4, 12, 13, 5, 6, 7, 8, 9, 10, 11] rfl rfl rfl (by decide) rfl rfl (fun H locs hw => ?_)
  refine lv_if_ne (tgt := 12) hx hb d_TP_endWriting_7 (by decide +kernel) (fun hc3 => ?_) (fun hc3 => ?_)
  · replace hm := tp_if hc3 hm
    refine lv_aload_n hx hb d_TP_endWriting_12 rfl (lv_at hl 0 rfl) ?_
    refine tp_get (v := .ref q_o) (C := R_TP) (T := T_TP) hx hb hts fw_TP hown hw 0 rfl rfl 1 (by decide +kernel) (hts _ wd_228) rfl d_TP_endWriting_13 ?_
    refine lv_aload_n hx hb d_TP_endWriting_16 rfl (lv_at hl 0 rfl) ?_
    refine tp_get (v := .ref q_t) (C := R_TP) (T := T_TP) hx hb hts fw_TP hown hw 0 rfl rfl 2 (by decide +kernel) (hts _ wd_226) rfl d_TP_endWriting_17 ?_
    obtain ⟨a_c_4, a_f_5, hm6, hm⟩ := tp_b2_e hm
    refine tp_callv (wr := [(q_h, .inr (6, [.ref q_i, .ref q_o, .ref q_t, .ref q_mt, .ref q_bw, .ref q_sw, .ref q_br, .ref q_sr, .int h_place])), (q_i, .inr (3, [.ref q_iB, .int i_c])), (q_iB, .inl (cB, 10000, .inl i_f)), (q_mt, .inr (2, [.ref q_i, .ref q_mtb, .ref q_mtl, .int mt_from, .int mt_to, .int mt_len, .int mt_dist])), (q_mtb, .inl (cI, 10000, .inl mt_bef)), (q_mtl, .inl (cI, 2048, .inl mt_lat)), (q_bw, .inr (1, [.ref q_i, .ref q_t, .ref q_mt])), (q_sw, .inr (5, [.ref q_i, .ref q_t, .ref q_bw])), (q_br, .inr (0, [.ref q_i, .ref q_t, .int br_at, .int br_end, .int br_tb, .long br_len, .int br_fault, .int br_fp])), (q_sr, .inr (4, [.ref q_i, .ref q_t, .ref q_br, .int sr_at, .int sr_most, .int sr_fault, .int sr_fp]))]) (WS' := [(q_h, .inr (6, [.ref q_i, .ref q_o, .ref q_t, .ref q_mt, .ref q_bw, .ref q_sw, .ref q_br, .ref q_sr, .int h_place])), (q_i, .inr (3, [.ref q_iB, .int i_c])), (q_iB, .inl (cB, 10000, .inl i_f)), (q_o, .inr (3, [.ref q_oB, .int a_c_4])), (q_oB, .inl (cB, 10000, .inl a_f_5)), (q_t, .inr (3, [.ref q_tB, .int t_c])), (q_tB, .inl (cB, 10000, .inl t_f)), (q_mt, .inr (2, [.ref q_i, .ref q_mtb, .ref q_mtl, .int mt_from, .int mt_to, .int mt_len, .int mt_dist])), (q_mtb, .inl (cI, 10000, .inl mt_bef)), (q_mtl, .inl (cI, 2048, .inl mt_lat)), (q_bw, .inr (1, [.ref q_i, .ref q_t, .ref q_mt])), (q_sw, .inr (5, [.ref q_i, .ref q_t, .ref q_bw])), (q_br, .inr (0, [.ref q_i, .ref q_t, .int br_at, .int br_end, .int br_tb, .long br_len, .int br_fault, .int br_fp])), (q_sr, .inr (4, [.ref q_i, .ref q_t, .ref q_br, .int sr_at, .int sr_most, .int sr_fault, .int sr_fp]))]) (va_runV (As := [.ref q_t]) (rest := []) hF (ct_Row_become (l := l) (D := D) (cB := cB) (cI := cI) (tM := tM) (q_a := q_o) (q_aB := q_oB) (q_b := q_t) (q_bB := q_tB) (a_c := o_c) (a_f := o_f) (b_c := t_c) (b_f := t_f) (a_c' := a_c_4) (a_f' := a_f_5) hm6 _) (cwV 1 hts (tpG_V wd_230 wd_231 wd_232 wd_3 wd_229) rfl rfl rfl ⟨rfl, yd_Row_become⟩ ⟨Nat.le_of_ble_eq_true rfl, Nat.le_of_ble_eq_true rfl⟩) ⟨tp_blind, va_recv hw.1 hw.2.1 (ci := 3) (q0 := 3) rfl rfl, tp_pre hw [3, 4, 5, 6] rfl rfl⟩ rfl rfl hl.1 rfl (lv_room (Nat.le_of_ble_eq_true rfl)) d_TP_endWriting_20 ⟨Nat.le_of_ble_eq_true rfl, Nat.le_of_ble_eq_true rfl⟩) hw [3, 4, 5, 6] [0, 1, 2, 7, 8, 9, 10, 11, 12, 13] [0, 1, 2, 10, 11, 12, 13, 3, 4, 5, 6, 7, 8, 9] rfl rfl rfl (by decide) rfl rfl (fun H locs hw => ?_)
    refine lv_aload_n hx hb d_TP_endWriting_23 rfl (lv_at hl 0 rfl) ?_
    refine tp_get (v := .ref q_o) (C := R_TP) (T := T_TP) hx hb hts fw_TP hown hw 0 rfl rfl 1 (by decide +kernel) (hts _ wd_228) rfl d_TP_endWriting_24 ?_
    refine tp_getN (v := .int a_c_4) (C := R_Row) (T := T_Row) hx hb hts fw_Row hown hw 3 rfl rfl 1 (by decide +kernel) nw_11 rfl d_TP_endWriting_27 ?_
    obtain ⟨rfl, rfl, rfl⟩ := tp_inj3 hm
    exact tp_iret hx hb hr hlocks hw d_TP_endWriting_30
  · replace hm := tp_it hc3 hm
    refine lv_iconst (v := (-1 : Int32)) hx hb d_TP_endWriting_10 (by decide +kernel) ?_
    obtain ⟨rfl, rfl, rfl⟩ := tp_inj3 hm
    exact tp_iret hx hb hr hlocks hw d_TP_endWriting_11
end
abbrev rm_TP_endReading : Room := { frames := 2, cells := 0, slots := 0, locals := 61 }
abbrev ws_TP_endReading : List Cond := .code y_TP_endReading c_TP_endReading 3 (some .int) :: tpG
noncomputable def m_TP_endReading (x1 : Int32) (x2 : Int32) (h_place : Int32) (i_c : Int32) (o_c : Int32) (o_f : Nat → Int32) (t_c : Int32) (t_f : Nat → Int32) : Option (Int32 × Int32 × Int32 × (Nat → Int32)) :=
  if x1 = 0 then
    tp_b2 (m_Row_become o_c o_f t_c t_f) fun a_c_2 a_f_3 =>
    some (a_c_2, i_c, a_c_2, a_f_3)
  else
    some ((-x1), x2, o_c, o_f)
section
variable {p : Program} {l : Launch} {e : Env} {s : State} {m : MethodId} {args : Array Value} {below : List Frame} {meth : Method} {c : Code} {A : Nat → Prop} {D : va_G} {cB cI : ClassId} {tM : Nat}
set_option maxHeartbeats 4000000 in
set_option maxRecDepth 100000 in
theorem ct_TP_endReading {q_h q_i q_iB q_o q_oB q_t q_tB q_mt q_mtb q_mtl q_bw q_sw q_br q_sr : Nat} {h_place : Int32} {i_c : Int32} {i_f : Nat → Int32} {o_c : Int32} {o_f : Nat → Int32} {t_c : Int32} {t_f : Nat → Int32} {mt_from : Int32} {mt_to : Int32} {mt_len : Int32} {mt_dist : Int32} {mt_bef : Nat → Int32} {mt_lat : Nat → Int32} {br_at : Int32} {br_end : Int32} {br_tb : Int32} {br_len : Int64} {br_fault : Int32} {br_fp : Int32} {sr_at : Int32} {sr_most : Int32} {sr_fault : Int32} {sr_fp : Int32} {x1 : Int32} {x2 : Int32} {r : Int32} {h_place' : Int32} {o_c' : Int32} {o_f' : Nat → Int32} (hm : m_TP_endReading x1 x2 h_place i_c o_c o_f t_c t_f = some (r, h_place', o_c', o_f')) (sz : Nat) : tp_Ci l y_TP_endReading ws_TP_endReading rm_TP_endReading D (tp_ty cB cI) tM [.ref q_h, .int x1, .int x2] [(q_h, .inr (6, [.ref q_i, .ref q_o, .ref q_t, .ref q_mt, .ref q_bw, .ref q_sw, .ref q_br, .ref q_sr, .int h_place])), (q_i, .inr (3, [.ref q_iB, .int i_c])), (q_iB, .inl (cB, 10000, .inl i_f)), (q_o, .inr (3, [.ref q_oB, .int o_c])), (q_oB, .inl (cB, 10000, .inl o_f)), (q_t, .inr (3, [.ref q_tB, .int t_c])), (q_tB, .inl (cB, 10000, .inl t_f)), (q_mt, .inr (2, [.ref q_i, .ref q_mtb, .ref q_mtl, .int mt_from, .int mt_to, .int mt_len, .int mt_dist])), (q_mtb, .inl (cI, 10000, .inl mt_bef)), (q_mtl, .inl (cI, 2048, .inl mt_lat)), (q_bw, .inr (1, [.ref q_i, .ref q_t, .ref q_mt])), (q_sw, .inr (5, [.ref q_i, .ref q_t, .ref q_bw])), (q_br, .inr (0, [.ref q_i, .ref q_t, .int br_at, .int br_end, .int br_tb, .long br_len, .int br_fault, .int br_fp])), (q_sr, .inr (4, [.ref q_i, .ref q_t, .ref q_br, .int sr_at, .int sr_most, .int sr_fault, .int sr_fp]))] sz r [(q_h, .inr (6, [.ref q_i, .ref q_o, .ref q_t, .ref q_mt, .ref q_bw, .ref q_sw, .ref q_br, .ref q_sr, .int h_place'])), (q_i, .inr (3, [.ref q_iB, .int i_c])), (q_iB, .inl (cB, 10000, .inl i_f)), (q_o, .inr (3, [.ref q_oB, .int o_c'])), (q_oB, .inl (cB, 10000, .inl o_f')), (q_t, .inr (3, [.ref q_tB, .int t_c])), (q_tB, .inl (cB, 10000, .inl t_f)), (q_mt, .inr (2, [.ref q_i, .ref q_mtb, .ref q_mtl, .int mt_from, .int mt_to, .int mt_len, .int mt_dist])), (q_mtb, .inl (cI, 10000, .inl mt_bef)), (q_mtl, .inl (cI, 2048, .inl mt_lat)), (q_bw, .inr (1, [.ref q_i, .ref q_t, .ref q_mt])), (q_sw, .inr (5, [.ref q_i, .ref q_t, .ref q_bw])), (q_br, .inr (0, [.ref q_i, .ref q_t, .int br_at, .int br_end, .int br_tb, .long br_len, .int br_fault, .int br_fp])), (q_sr, .inr (4, [.ref q_i, .ref q_t, .ref q_br, .int sr_at, .int sr_most, .int sr_fault, .int sr_fp]))] := by
  refine Met.ofW (cc := c_TP_endReading) (maxL := 3) (ret := (some .int)) (by decide) rfl ?_
  intro p e s m args below meth c s₁ B hml hv
  obtain ⟨rfl, hv⟩ := hv
  have hw := tp_entry hv
  generalize va_A [(q_h, .inr (6, [.ref q_i, .ref q_o, .ref q_t, .ref q_mt, .ref q_bw, .ref q_sw, .ref q_br, .ref q_sr, .int h_place])), (q_i, .inr (3, [.ref q_iB, .int i_c])), (q_iB, .inl (cB, 10000, .inl i_f)), (q_o, .inr (3, [.ref q_oB, .int o_c])), (q_oB, .inl (cB, 10000, .inl o_f)), (q_t, .inr (3, [.ref q_tB, .int t_c])), (q_tB, .inl (cB, 10000, .inl t_f)), (q_mt, .inr (2, [.ref q_i, .ref q_mtb, .ref q_mtl, .int mt_from, .int mt_to, .int mt_len, .int mt_dist])), (q_mtb, .inl (cI, 10000, .inl mt_bef)), (q_mtl, .inl (cI, 2048, .inl mt_lat)), (q_bw, .inr (1, [.ref q_i, .ref q_t, .ref q_mt])), (q_sw, .inr (5, [.ref q_i, .ref q_t, .ref q_bw])), (q_br, .inr (0, [.ref q_i, .ref q_t, .int br_at, .int br_end, .int br_tb, .long br_len, .int br_fault, .int br_fp])), (q_sr, .inr (4, [.ref q_i, .ref q_t, .ref q_br, .int sr_at, .int sr_most, .int sr_fault, .int sr_fp]))] sz = A at hw ⊢
  have hx := B.exec
  have hb := B.bytes
  have hr := B.returns
  have hts0 := atoms_spec (ws := ws_TP_endReading) B.pre
  have hts := fun w h => hts0 w (List.mem_cons_of_mem _ h)
  have hown : s.vm.findClass R_TP = some m.cls := findClass_of_methodNamed B.named
  have hlocks := B.notSynchronized
  have hF : CallFix p m c c_TP_endReading 3 s _ tpG R_TP := ⟨hx, hb, hml, hown, hts⟩
  have hF2 : tp_F p m c c_TP_endReading 3 s _ tpG R_TP meth (some .int) := ⟨hF, hr, hlocks⟩
  have hl := lv_entry ([.ref q_h, .int x1, .int x2]) (n := 3) (Nat.le_of_ble_eq_true rfl)
  rw [lg_entry_eq]
  generalize (lg_sl ([.ref q_h, .int x1, .int x2]) ++ List.replicate (3 - (lg_sl ([.ref q_h, .int x1, .int x2])).length) Slot.unset).toArray = ls at hl ⊢
  replace hl : lv_has ls 3 [(0, .ref q_h), (1, .int x1), (2, .int x2)] := hl
  unfold m_TP_endReading at hm
  refine lv_iload_n hx hb d_TP_endReading_0 rfl (lv_at hl 1 rfl) ?_
  refine lv_if_eq (tgt := 12) hx hb d_TP_endReading_1 (by decide +kernel) (fun hc1 => ?_) (fun hc1 => ?_)
  · replace hm := tp_it hc1 hm
    refine lv_aload_n hx hb d_TP_endReading_12 rfl (lv_at hl 0 rfl) ?_
    refine lv_aload_n hx hb d_TP_endReading_13 rfl (lv_at hl 0 rfl) ?_
    refine tp_get (v := .ref q_i) (C := R_TP) (T := T_TP) hx hb hts fw_TP hown hw 0 rfl rfl 0 (by decide +kernel) (hts _ wd_233) rfl d_TP_endReading_14 ?_
    refine tp_getN (v := .int i_c) (C := R_Row) (T := T_Row) hx hb hts fw_Row hown hw 1 rfl rfl 1 (by decide +kernel) nw_11 rfl d_TP_endReading_17 ?_
    refine tp_put (v := .int i_c) (C := R_TP) (T := T_TP) (WS' := [(q_h, .inr (6, [.ref q_i, .ref q_o, .ref q_t, .ref q_mt, .ref q_bw, .ref q_sw, .ref q_br, .ref q_sr, .int i_c])), (q_i, .inr (3, [.ref q_iB, .int i_c])), (q_iB, .inl (cB, 10000, .inl i_f)), (q_o, .inr (3, [.ref q_oB, .int o_c])), (q_oB, .inl (cB, 10000, .inl o_f)), (q_t, .inr (3, [.ref q_tB, .int t_c])), (q_tB, .inl (cB, 10000, .inl t_f)), (q_mt, .inr (2, [.ref q_i, .ref q_mtb, .ref q_mtl, .int mt_from, .int mt_to, .int mt_len, .int mt_dist])), (q_mtb, .inl (cI, 10000, .inl mt_bef)), (q_mtl, .inl (cI, 2048, .inl mt_lat)), (q_bw, .inr (1, [.ref q_i, .ref q_t, .ref q_mt])), (q_sw, .inr (5, [.ref q_i, .ref q_t, .ref q_bw])), (q_br, .inr (0, [.ref q_i, .ref q_t, .int br_at, .int br_end, .int br_tb, .long br_len, .int br_fault, .int br_fp])), (q_sr, .inr (4, [.ref q_i, .ref q_t, .ref q_br, .int sr_at, .int sr_most, .int sr_fault, .int sr_fp]))]) hx hb hts fw_TP ty_TP ty_TP_ok nm_TP hown hw 0 rfl rfl 8 (by decide +kernel) (hts _ wd_234) rfl rfl rfl (Nat.le_of_ble_eq_true rfl) rfl d_TP_endReading_20 (fun H locs hw => ?_)
    refine lv_aload_n hx hb d_TP_endReading_23 rfl (lv_at hl 0 rfl) ?_
    refine tp_get (v := .ref q_o) (C := R_TP) (T := T_TP) hx hb hts fw_TP hown hw 0 rfl rfl 1 (by decide +kernel) (hts _ wd_228) rfl d_TP_endReading_24 ?_
    refine lv_aload_n hx hb d_TP_endReading_27 rfl (lv_at hl 0 rfl) ?_
    refine tp_get (v := .ref q_t) (C := R_TP) (T := T_TP) hx hb hts fw_TP hown hw 0 rfl rfl 2 (by decide +kernel) (hts _ wd_226) rfl d_TP_endReading_28 ?_
    obtain ⟨a_c_2, a_f_3, hm4, hm⟩ := tp_b2_e hm
    refine tp_callv (wr := [(q_h, .inr (6, [.ref q_i, .ref q_o, .ref q_t, .ref q_mt, .ref q_bw, .ref q_sw, .ref q_br, .ref q_sr, .int i_c])), (q_i, .inr (3, [.ref q_iB, .int i_c])), (q_iB, .inl (cB, 10000, .inl i_f)), (q_mt, .inr (2, [.ref q_i, .ref q_mtb, .ref q_mtl, .int mt_from, .int mt_to, .int mt_len, .int mt_dist])), (q_mtb, .inl (cI, 10000, .inl mt_bef)), (q_mtl, .inl (cI, 2048, .inl mt_lat)), (q_bw, .inr (1, [.ref q_i, .ref q_t, .ref q_mt])), (q_sw, .inr (5, [.ref q_i, .ref q_t, .ref q_bw])), (q_br, .inr (0, [.ref q_i, .ref q_t, .int br_at, .int br_end, .int br_tb, .long br_len, .int br_fault, .int br_fp])), (q_sr, .inr (4, [.ref q_i, .ref q_t, .ref q_br, .int sr_at, .int sr_most, .int sr_fault, .int sr_fp]))]) (WS' := [(q_h, .inr (6, [.ref q_i, .ref q_o, .ref q_t, .ref q_mt, .ref q_bw, .ref q_sw, .ref q_br, .ref q_sr, .int i_c])), (q_i, .inr (3, [.ref q_iB, .int i_c])), (q_iB, .inl (cB, 10000, .inl i_f)), (q_o, .inr (3, [.ref q_oB, .int a_c_2])), (q_oB, .inl (cB, 10000, .inl a_f_3)), (q_t, .inr (3, [.ref q_tB, .int t_c])), (q_tB, .inl (cB, 10000, .inl t_f)), (q_mt, .inr (2, [.ref q_i, .ref q_mtb, .ref q_mtl, .int mt_from, .int mt_to, .int mt_len, .int mt_dist])), (q_mtb, .inl (cI, 10000, .inl mt_bef)), (q_mtl, .inl (cI, 2048, .inl mt_lat)), (q_bw, .inr (1, [.ref q_i, .ref q_t, .ref q_mt])), (q_sw, .inr (5, [.ref q_i, .ref q_t, .ref q_bw])), (q_br, .inr (0, [.ref q_i, .ref q_t, .int br_at, .int br_end, .int br_tb, .long br_len, .int br_fault, .int br_fp])), (q_sr, .inr (4, [.ref q_i, .ref q_t, .ref q_br, .int sr_at, .int sr_most, .int sr_fault, .int sr_fp]))]) (va_runV (As := [.ref q_t]) (rest := []) hF (ct_Row_become (l := l) (D := D) (cB := cB) (cI := cI) (tM := tM) (q_a := q_o) (q_aB := q_oB) (q_b := q_t) (q_bB := q_tB) (a_c := o_c) (a_f := o_f) (b_c := t_c) (b_f := t_f) (a_c' := a_c_2) (a_f' := a_f_3) hm4 _) (cwV 1 hts (tpG_V wd_230 wd_231 wd_232 wd_3 wd_229) rfl rfl rfl ⟨rfl, yd_Row_become⟩ ⟨Nat.le_of_ble_eq_true rfl, Nat.le_of_ble_eq_true rfl⟩) ⟨tp_blind, va_recv hw.1 hw.2.1 (ci := 3) (q0 := 3) rfl rfl, tp_pre hw [3, 4, 5, 6] rfl rfl⟩ rfl rfl hl.1 rfl (lv_room (Nat.le_of_ble_eq_true rfl)) d_TP_endReading_31 ⟨Nat.le_of_ble_eq_true rfl, Nat.le_of_ble_eq_true rfl⟩) hw [3, 4, 5, 6] [0, 1, 2, 7, 8, 9, 10, 11, 12, 13] [0, 1, 2, 10, 11, 12, 13, 3, 4, 5, 6, 7, 8, 9] rfl rfl rfl (by decide) rfl rfl (fun H locs hw => ?_)
    refine lv_aload_n hx hb d_TP_endReading_34 rfl (lv_at hl 0 rfl) ?_
    refine tp_get (v := .ref q_o) (C := R_TP) (T := T_TP) hx hb hts fw_TP hown hw 0 rfl rfl 1 (by decide +kernel) (hts _ wd_228) rfl d_TP_endReading_35 ?_
    refine tp_getN (v := .int a_c_2) (C := R_Row) (T := T_Row) hx hb hts fw_Row hown hw 3 rfl rfl 1 (by decide +kernel) nw_11 rfl d_TP_endReading_38 ?_
    obtain ⟨rfl, rfl, rfl, rfl⟩ := tp_inj4 hm
    exact tp_iret hx hb hr hlocks hw d_TP_endReading_41
  · replace hm := tp_if hc1 hm
    refine lv_aload_n hx hb d_TP_endReading_4 rfl (lv_at hl 0 rfl) ?_
    refine lv_iload_n hx hb d_TP_endReading_5 rfl (lv_at hl 2 rfl) ?_
    refine tp_put (v := .int x2) (C := R_TP) (T := T_TP) (WS' := [(q_h, .inr (6, [.ref q_i, .ref q_o, .ref q_t, .ref q_mt, .ref q_bw, .ref q_sw, .ref q_br, .ref q_sr, .int x2])), (q_i, .inr (3, [.ref q_iB, .int i_c])), (q_iB, .inl (cB, 10000, .inl i_f)), (q_o, .inr (3, [.ref q_oB, .int o_c])), (q_oB, .inl (cB, 10000, .inl o_f)), (q_t, .inr (3, [.ref q_tB, .int t_c])), (q_tB, .inl (cB, 10000, .inl t_f)), (q_mt, .inr (2, [.ref q_i, .ref q_mtb, .ref q_mtl, .int mt_from, .int mt_to, .int mt_len, .int mt_dist])), (q_mtb, .inl (cI, 10000, .inl mt_bef)), (q_mtl, .inl (cI, 2048, .inl mt_lat)), (q_bw, .inr (1, [.ref q_i, .ref q_t, .ref q_mt])), (q_sw, .inr (5, [.ref q_i, .ref q_t, .ref q_bw])), (q_br, .inr (0, [.ref q_i, .ref q_t, .int br_at, .int br_end, .int br_tb, .long br_len, .int br_fault, .int br_fp])), (q_sr, .inr (4, [.ref q_i, .ref q_t, .ref q_br, .int sr_at, .int sr_most, .int sr_fault, .int sr_fp]))]) hx hb hts fw_TP ty_TP ty_TP_ok nm_TP hown hw 0 rfl rfl 8 (by decide +kernel) (hts _ wd_234) rfl rfl rfl (Nat.le_of_ble_eq_true rfl) rfl d_TP_endReading_6 (fun H locs hw => ?_)
    refine lv_iload_n hx hb d_TP_endReading_9 rfl (lv_at hl 1 rfl) ?_
    refine lv_ineg hx hb d_TP_endReading_10 ?_
    obtain ⟨rfl, rfl, rfl, rfl⟩ := tp_inj4 hm
    exact tp_iret hx hb hr hlocks hw d_TP_endReading_11
end
abbrev rm_TP_write : Room := { frames := 1, cells := 0, slots := 0, locals := 21 }
abbrev ws_TP_write : List Cond := .code y_TP_write c_TP_write 5 (some .boolean) :: tpG
noncomputable def m_TP_write_31 (N : Nat) (rec31 : Int64 → Int32 → Int32 → Int32 → (Nat → Int32) → Option (Int32 × Int32 × (Nat → Int32))) (x1 : Int64) (x3 : Int32) (x4 : Int32) (i_c : Int32) (i_f : Nat → Int32) : Option (Int32 × Int32 × (Nat → Int32)) :=
  if x3 ≤ x4 then
    some ((1 : Int32), i_c, i_f)
  else
    tp_b2 (m_Row_put (Int64.toInt32 (tp_lushr x1 ((56 : Int32) - ((8 : Int32) * x4)))) i_c i_f) fun a_c_5 a_f_6 =>
    rec31 x1 x3 (x4 + (1 : Int32)) a_c_5 a_f_6
noncomputable def m_TP_write (N : Nat) (x1 : Int64) (x3 : Int32) (i_c : Int32) (i_f : Nat → Int32) : Option (Int32 × Int32 × (Nat → Int32)) :=
  if x3 < (1 : Int32) then
    some ((0 : Int32), i_c, i_f)
  else
    if (8 : Int32) < x3 then
      some ((0 : Int32), i_c, i_f)
    else
      if x3 ≤ ((10000 : Int32) - i_c) then
        tp_it5 (m_TP_write_31 N ) N x1 x3 (0 : Int32) i_c i_f
      else
        some ((0 : Int32), i_c, i_f)
section
variable {p : Program} {l : Launch} {e : Env} {s : State} {m : MethodId} {args : Array Value} {below : List Frame} {meth : Method} {c : Code} {A : Nat → Prop} {D : va_G} {cB cI : ClassId} {tM : Nat}
set_option maxHeartbeats 4000000 in
set_option maxRecDepth 100000 in
theorem w_TP_write_31 {q_h q_i q_iB q_o q_oB q_t q_tB q_mt q_mtb q_mtl q_bw q_sw q_br q_sr : Nat} {h_place : Int32} {o_c : Int32} {o_f : Nat → Int32} {t_c : Int32} {t_f : Nat → Int32} {mt_from : Int32} {mt_to : Int32} {mt_len : Int32} {mt_dist : Int32} {mt_bef : Nat → Int32} {mt_lat : Nat → Int32} {br_at : Int32} {br_end : Int32} {br_tb : Int32} {br_len : Int64} {br_fault : Int32} {br_fp : Int32} {sr_at : Int32} {sr_most : Int32} {sr_fault : Int32} {sr_fp : Int32} {N : Nat} {r : Int32} {i_c' : Int32} {i_f' : Nat → Int32} (hF2 : tp_F p m c c_TP_write 5 s args tpG R_TP meth (some .boolean)) : ∀ (n : Nat), ∀ (x1 : Int64) (x3 : Int32) (x4 : Int32) (i_c : Int32) (i_f : Nat → Int32) (H : Heap) (locs : List Loc) (ls : Array Slot), tp_it5 (m_TP_write_31 N ) n x1 x3 x4 i_c i_f = some (r, i_c', i_f') → tp_Wd D (tp_ty cB cI) tM A s H locs [(q_h, .inr (6, [.ref q_i, .ref q_o, .ref q_t, .ref q_mt, .ref q_bw, .ref q_sw, .ref q_br, .ref q_sr, .int h_place])), (q_i, .inr (3, [.ref q_iB, .int i_c])), (q_iB, .inl (cB, 10000, .inl i_f)), (q_o, .inr (3, [.ref q_oB, .int o_c])), (q_oB, .inl (cB, 10000, .inl o_f)), (q_t, .inr (3, [.ref q_tB, .int t_c])), (q_tB, .inl (cB, 10000, .inl t_f)), (q_mt, .inr (2, [.ref q_i, .ref q_mtb, .ref q_mtl, .int mt_from, .int mt_to, .int mt_len, .int mt_dist])), (q_mtb, .inl (cI, 10000, .inl mt_bef)), (q_mtl, .inl (cI, 2048, .inl mt_lat)), (q_bw, .inr (1, [.ref q_i, .ref q_t, .ref q_mt])), (q_sw, .inr (5, [.ref q_i, .ref q_t, .ref q_bw])), (q_br, .inr (0, [.ref q_i, .ref q_t, .int br_at, .int br_end, .int br_tb, .long br_len, .int br_fault, .int br_fp])), (q_sr, .inr (4, [.ref q_i, .ref q_t, .ref q_br, .int sr_at, .int sr_most, .int sr_fault, .int sr_fp]))] → lv_has ls 5 [(0, .ref q_h), (1, .long x1), (3, .int x3), (4, .int x4)] → W p l e rm_TP_write s m args below meth c H locs 0 0 (MQ below (tp_Qi D A r [(q_h, .inr (6, [.ref q_i, .ref q_o, .ref q_t, .ref q_mt, .ref q_bw, .ref q_sw, .ref q_br, .ref q_sr, .int h_place])), (q_i, .inr (3, [.ref q_iB, .int i_c'])), (q_iB, .inl (cB, 10000, .inl i_f')), (q_o, .inr (3, [.ref q_oB, .int o_c])), (q_oB, .inl (cB, 10000, .inl o_f)), (q_t, .inr (3, [.ref q_tB, .int t_c])), (q_tB, .inl (cB, 10000, .inl t_f)), (q_mt, .inr (2, [.ref q_i, .ref q_mtb, .ref q_mtl, .int mt_from, .int mt_to, .int mt_len, .int mt_dist])), (q_mtb, .inl (cI, 10000, .inl mt_bef)), (q_mtl, .inl (cI, 2048, .inl mt_lat)), (q_bw, .inr (1, [.ref q_i, .ref q_t, .ref q_mt])), (q_sw, .inr (5, [.ref q_i, .ref q_t, .ref q_bw])), (q_br, .inr (0, [.ref q_i, .ref q_t, .int br_at, .int br_end, .int br_tb, .long br_len, .int br_fault, .int br_fp])), (q_sr, .inr (4, [.ref q_i, .ref q_t, .ref q_br, .int sr_at, .int sr_most, .int sr_fault, .int sr_fp]))]) args s 0 0 A) (F0 m 31 ls []) := by
  obtain ⟨hF, hr, hlocks⟩ := id hF2
  obtain ⟨hx, hb, hml, hown, hts⟩ := id hF
  intro n
  induction n with
  | zero => intro x1 x3 x4 i_c i_f H locs ls hm; exact absurd hm (by simp [tp_it5])
  | succ n ih31 =>
    intro x1 x3 x4 i_c i_f H locs ls hm hw hl
    replace hm : m_TP_write_31 N  (tp_it5 (m_TP_write_31 N ) n) x1 x3 x4 i_c i_f = some (r, i_c', i_f') := hm
    unfold m_TP_write_31 at hm
    refine lv_iload hx hb d_TP_write_31 (lv_at hl 3 rfl) ?_
    refine lv_iload_n hx hb d_TP_write_33 rfl (lv_at hl 2 rfl) ?_
    refine lv_icmp_ge (tgt := 61) hx hb d_TP_write_34 (by decide +kernel) (fun hc4 => ?_) (fun hc4 => ?_)
    · replace hm := tp_it hc4 hm
      refine lv_iconst (v := (1 : Int32)) hx hb d_TP_write_61 (by decide +kernel) ?_
      obtain ⟨rfl, rfl, rfl⟩ := tp_inj3 hm
      exact tp_zret hx hb hr hlocks rfl hw d_TP_write_62
    · replace hm := tp_if hc4 hm
      refine lv_aload_n hx hb d_TP_write_37 rfl (lv_at hl 0 rfl) ?_
      refine tp_get (v := .ref q_i) (C := R_TP) (T := T_TP) hx hb hts fw_TP hown hw 0 rfl rfl 0 (by decide +kernel) (hts _ wd_233) rfl d_TP_write_38 ?_
      refine lv_lload_n hx hb d_TP_write_41 rfl (lv_at hl 1 rfl) ?_
      refine lv_bipush (v := (56 : Int32)) hx hb d_TP_write_42 (by decide +kernel) ?_
      refine lv_bipush (v := (8 : Int32)) hx hb d_TP_write_44 (by decide +kernel) ?_
      refine lv_iload hx hb d_TP_write_46 (lv_at hl 3 rfl) ?_
      refine lv_imul hx hb d_TP_write_48 ?_
      refine lv_isub hx hb d_TP_write_49 ?_
      refine lv_lushr (v := (tp_lushr x1 ((56 : Int32) - ((8 : Int32) * x4)))) hx hb d_TP_write_50 rfl ?_
      refine lv_l2i (v := (Int64.toInt32 (tp_lushr x1 ((56 : Int32) - ((8 : Int32) * x4))))) hx hb d_TP_write_51 rfl ?_
      obtain ⟨a_c_5, a_f_6, hm7, hm⟩ := tp_b2_e hm
      refine tp_callv (wr := [(q_h, .inr (6, [.ref q_i, .ref q_o, .ref q_t, .ref q_mt, .ref q_bw, .ref q_sw, .ref q_br, .ref q_sr, .int h_place])), (q_o, .inr (3, [.ref q_oB, .int o_c])), (q_oB, .inl (cB, 10000, .inl o_f)), (q_t, .inr (3, [.ref q_tB, .int t_c])), (q_tB, .inl (cB, 10000, .inl t_f)), (q_mt, .inr (2, [.ref q_i, .ref q_mtb, .ref q_mtl, .int mt_from, .int mt_to, .int mt_len, .int mt_dist])), (q_mtb, .inl (cI, 10000, .inl mt_bef)), (q_mtl, .inl (cI, 2048, .inl mt_lat)), (q_bw, .inr (1, [.ref q_i, .ref q_t, .ref q_mt])), (q_sw, .inr (5, [.ref q_i, .ref q_t, .ref q_bw])), (q_br, .inr (0, [.ref q_i, .ref q_t, .int br_at, .int br_end, .int br_tb, .long br_len, .int br_fault, .int br_fp])), (q_sr, .inr (4, [.ref q_i, .ref q_t, .ref q_br, .int sr_at, .int sr_most, .int sr_fault, .int sr_fp]))]) (WS' := [(q_h, .inr (6, [.ref q_i, .ref q_o, .ref q_t, .ref q_mt, .ref q_bw, .ref q_sw, .ref q_br, .ref q_sr, .int h_place])), (q_i, .inr (3, [.ref q_iB, .int a_c_5])), (q_iB, .inl (cB, 10000, .inl a_f_6)), (q_o, .inr (3, [.ref q_oB, .int o_c])), (q_oB, .inl (cB, 10000, .inl o_f)), (q_t, .inr (3, [.ref q_tB, .int t_c])), (q_tB, .inl (cB, 10000, .inl t_f)), (q_mt, .inr (2, [.ref q_i, .ref q_mtb, .ref q_mtl, .int mt_from, .int mt_to, .int mt_len, .int mt_dist])), (q_mtb, .inl (cI, 10000, .inl mt_bef)), (q_mtl, .inl (cI, 2048, .inl mt_lat)), (q_bw, .inr (1, [.ref q_i, .ref q_t, .ref q_mt])), (q_sw, .inr (5, [.ref q_i, .ref q_t, .ref q_bw])), (q_br, .inr (0, [.ref q_i, .ref q_t, .int br_at, .int br_end, .int br_tb, .long br_len, .int br_fault, .int br_fp])), (q_sr, .inr (4, [.ref q_i, .ref q_t, .ref q_br, .int sr_at, .int sr_most, .int sr_fault, .int sr_fp]))]) (va_runV (As := [.int (Int64.toInt32 (tp_lushr x1 ((56 : Int32) - ((8 : Int32) * x4))))]) (rest := []) hF (ct_Row_put (l := l) (D := D) (cB := cB) (cI := cI) (tM := tM) (q_a := q_i) (q_aB := q_iB) (a_c := i_c) (a_f := i_f) (x1 := (Int64.toInt32 (tp_lushr x1 ((56 : Int32) - ((8 : Int32) * x4))))) (a_c' := a_c_5) (a_f' := a_f_6) hm7 _) (cwV 1 hts (tpG_V wd_235 wd_5 wd_6 wd_3 wd_2) rfl rfl rfl ⟨rfl, yd_Row_put⟩ ⟨Nat.le_of_ble_eq_true rfl, Nat.le_of_ble_eq_true rfl⟩) ⟨tp_blind, va_recv hw.1 hw.2.1 (ci := 3) (q0 := 1) rfl rfl, tp_pre hw [1, 2] rfl rfl⟩ rfl rfl hl.1 rfl (lv_room (Nat.le_of_ble_eq_true rfl)) d_TP_write_52 ⟨Nat.le_of_ble_eq_true rfl, Nat.le_of_ble_eq_true rfl⟩) hw [1, 2] [0, 3, 4, 5, 6, 7, 8, 9, 10, 11, 12, 13] [0, 12, 13, 1, 2, 3, 4, 5, 6, 7, 8, 9, 10, 11] rfl rfl rfl (by decide) rfl rfl (fun H locs hw => ?_)
      refine lv_iinc (v := (x4 + (1 : Int32))) (lv' := [(4, .int (x4 + (1 : Int32))), (0, .ref q_h), (1, .long x1), (3, .int x3)]) hx hb d_TP_write_55 hl (k := 3) rfl rfl (by decide +kernel) rfl (fun ls hl => ?_)
      refine lv_goto (tgt := 31) hx hb d_TP_write_58 (by decide +kernel) ?_
      exact ih31 _ _ _ _ _ _ _ _ hm hw (lv_sub hl [1, 2, 3, 0] rfl)
set_option maxHeartbeats 4000000 in
set_option maxRecDepth 100000 in
theorem ct_TP_write {q_h q_i q_iB q_o q_oB q_t q_tB q_mt q_mtb q_mtl q_bw q_sw q_br q_sr : Nat} {h_place : Int32} {i_c : Int32} {i_f : Nat → Int32} {o_c : Int32} {o_f : Nat → Int32} {t_c : Int32} {t_f : Nat → Int32} {mt_from : Int32} {mt_to : Int32} {mt_len : Int32} {mt_dist : Int32} {mt_bef : Nat → Int32} {mt_lat : Nat → Int32} {br_at : Int32} {br_end : Int32} {br_tb : Int32} {br_len : Int64} {br_fault : Int32} {br_fp : Int32} {sr_at : Int32} {sr_most : Int32} {sr_fault : Int32} {sr_fp : Int32} {N : Nat} {x1 : Int64} {x3 : Int32} {r : Int32} {i_c' : Int32} {i_f' : Nat → Int32} (hm : m_TP_write N x1 x3 i_c i_f = some (r, i_c', i_f')) (sz : Nat) : tp_Ci l y_TP_write ws_TP_write rm_TP_write D (tp_ty cB cI) tM [.ref q_h, .long x1, .int x3] [(q_h, .inr (6, [.ref q_i, .ref q_o, .ref q_t, .ref q_mt, .ref q_bw, .ref q_sw, .ref q_br, .ref q_sr, .int h_place])), (q_i, .inr (3, [.ref q_iB, .int i_c])), (q_iB, .inl (cB, 10000, .inl i_f)), (q_o, .inr (3, [.ref q_oB, .int o_c])), (q_oB, .inl (cB, 10000, .inl o_f)), (q_t, .inr (3, [.ref q_tB, .int t_c])), (q_tB, .inl (cB, 10000, .inl t_f)), (q_mt, .inr (2, [.ref q_i, .ref q_mtb, .ref q_mtl, .int mt_from, .int mt_to, .int mt_len, .int mt_dist])), (q_mtb, .inl (cI, 10000, .inl mt_bef)), (q_mtl, .inl (cI, 2048, .inl mt_lat)), (q_bw, .inr (1, [.ref q_i, .ref q_t, .ref q_mt])), (q_sw, .inr (5, [.ref q_i, .ref q_t, .ref q_bw])), (q_br, .inr (0, [.ref q_i, .ref q_t, .int br_at, .int br_end, .int br_tb, .long br_len, .int br_fault, .int br_fp])), (q_sr, .inr (4, [.ref q_i, .ref q_t, .ref q_br, .int sr_at, .int sr_most, .int sr_fault, .int sr_fp]))] sz r [(q_h, .inr (6, [.ref q_i, .ref q_o, .ref q_t, .ref q_mt, .ref q_bw, .ref q_sw, .ref q_br, .ref q_sr, .int h_place])), (q_i, .inr (3, [.ref q_iB, .int i_c'])), (q_iB, .inl (cB, 10000, .inl i_f')), (q_o, .inr (3, [.ref q_oB, .int o_c])), (q_oB, .inl (cB, 10000, .inl o_f)), (q_t, .inr (3, [.ref q_tB, .int t_c])), (q_tB, .inl (cB, 10000, .inl t_f)), (q_mt, .inr (2, [.ref q_i, .ref q_mtb, .ref q_mtl, .int mt_from, .int mt_to, .int mt_len, .int mt_dist])), (q_mtb, .inl (cI, 10000, .inl mt_bef)), (q_mtl, .inl (cI, 2048, .inl mt_lat)), (q_bw, .inr (1, [.ref q_i, .ref q_t, .ref q_mt])), (q_sw, .inr (5, [.ref q_i, .ref q_t, .ref q_bw])), (q_br, .inr (0, [.ref q_i, .ref q_t, .int br_at, .int br_end, .int br_tb, .long br_len, .int br_fault, .int br_fp])), (q_sr, .inr (4, [.ref q_i, .ref q_t, .ref q_br, .int sr_at, .int sr_most, .int sr_fault, .int sr_fp]))] := by
  refine Met.ofW (cc := c_TP_write) (maxL := 5) (ret := (some .boolean)) (by decide) rfl ?_
  intro p e s m args below meth c s₁ B hml hv
  obtain ⟨rfl, hv⟩ := hv
  have hw := tp_entry hv
  generalize va_A [(q_h, .inr (6, [.ref q_i, .ref q_o, .ref q_t, .ref q_mt, .ref q_bw, .ref q_sw, .ref q_br, .ref q_sr, .int h_place])), (q_i, .inr (3, [.ref q_iB, .int i_c])), (q_iB, .inl (cB, 10000, .inl i_f)), (q_o, .inr (3, [.ref q_oB, .int o_c])), (q_oB, .inl (cB, 10000, .inl o_f)), (q_t, .inr (3, [.ref q_tB, .int t_c])), (q_tB, .inl (cB, 10000, .inl t_f)), (q_mt, .inr (2, [.ref q_i, .ref q_mtb, .ref q_mtl, .int mt_from, .int mt_to, .int mt_len, .int mt_dist])), (q_mtb, .inl (cI, 10000, .inl mt_bef)), (q_mtl, .inl (cI, 2048, .inl mt_lat)), (q_bw, .inr (1, [.ref q_i, .ref q_t, .ref q_mt])), (q_sw, .inr (5, [.ref q_i, .ref q_t, .ref q_bw])), (q_br, .inr (0, [.ref q_i, .ref q_t, .int br_at, .int br_end, .int br_tb, .long br_len, .int br_fault, .int br_fp])), (q_sr, .inr (4, [.ref q_i, .ref q_t, .ref q_br, .int sr_at, .int sr_most, .int sr_fault, .int sr_fp]))] sz = A at hw ⊢
  have hx := B.exec
  have hb := B.bytes
  have hr := B.returns
  have hts0 := atoms_spec (ws := ws_TP_write) B.pre
  have hts := fun w h => hts0 w (List.mem_cons_of_mem _ h)
  have hown : s.vm.findClass R_TP = some m.cls := findClass_of_methodNamed B.named
  have hlocks := B.notSynchronized
  have hF : CallFix p m c c_TP_write 5 s _ tpG R_TP := ⟨hx, hb, hml, hown, hts⟩
  have hF2 : tp_F p m c c_TP_write 5 s _ tpG R_TP meth (some .boolean) := ⟨hF, hr, hlocks⟩
  have hl := lv_entry ([.ref q_h, .long x1, .int x3]) (n := 5) (Nat.le_of_ble_eq_true rfl)
  rw [lg_entry_eq]
  generalize (lg_sl ([.ref q_h, .long x1, .int x3]) ++ List.replicate (5 - (lg_sl ([.ref q_h, .long x1, .int x3])).length) Slot.unset).toArray = ls at hl ⊢
  replace hl : lv_has ls 5 [(0, .ref q_h), (1, .long x1), (3, .int x3)] := hl
  unfold m_TP_write at hm
  refine lv_iload_n hx hb d_TP_write_0 rfl (lv_at hl 2 rfl) ?_
  refine lv_iconst (v := (1 : Int32)) hx hb d_TP_write_1 (by decide +kernel) ?_
  refine lv_icmp_lt (tgt := 26) hx hb d_TP_write_2 (by decide +kernel) (fun hc1 => ?_) (fun hc1 => ?_)
  · replace hm := tp_it hc1 hm
    refine lv_iconst (v := (0 : Int32)) hx hb d_TP_write_26 (by decide +kernel) ?_
    obtain ⟨rfl, rfl, rfl⟩ := tp_inj3 hm
    exact tp_zret hx hb hr hlocks rfl hw d_TP_write_27
  · replace hm := tp_if hc1 hm
    refine lv_iload_n hx hb d_TP_write_5 rfl (lv_at hl 2 rfl) ?_
    refine lv_bipush (v := (8 : Int32)) hx hb d_TP_write_6 (by decide +kernel) ?_
    refine lv_icmp_gt (tgt := 26) hx hb d_TP_write_8 (by decide +kernel) (fun hc2 => ?_) (fun hc2 => ?_)
    · replace hm := tp_it hc2 hm
      refine lv_iconst (v := (0 : Int32)) hx hb d_TP_write_26 (by decide +kernel) ?_
      obtain ⟨rfl, rfl, rfl⟩ := tp_inj3 hm
      exact tp_zret hx hb hr hlocks rfl hw d_TP_write_27
    · replace hm := tp_if hc2 hm
      refine lv_iload_n hx hb d_TP_write_11 rfl (lv_at hl 2 rfl) ?_
      refine lv_sipush (v := (10000 : Int32)) hx hb d_TP_write_12 (by decide +kernel) ?_
      refine lv_aload_n hx hb d_TP_write_15 rfl (lv_at hl 0 rfl) ?_
      refine tp_get (v := .ref q_i) (C := R_TP) (T := T_TP) hx hb hts fw_TP hown hw 0 rfl rfl 0 (by decide +kernel) (hts _ wd_233) rfl d_TP_write_16 ?_
      refine tp_getN (v := .int i_c) (C := R_Row) (T := T_Row) hx hb hts fw_Row hown hw 1 rfl rfl 1 (by decide +kernel) nw_11 rfl d_TP_write_19 ?_
      refine lv_isub hx hb d_TP_write_22 ?_
      refine lv_icmp_le (tgt := 28) hx hb d_TP_write_23 (by decide +kernel) (fun hc3 => ?_) (fun hc3 => ?_)
      · replace hm := tp_it hc3 hm
        refine lv_iconst (v := (0 : Int32)) hx hb d_TP_write_28 (by decide +kernel) ?_
        refine lv_istore (lv' := [(4, .int (0 : Int32)), (0, .ref q_h), (1, .long x1), (3, .int x3)]) hx hb d_TP_write_29 hl (by decide +kernel) rfl (fun ls hl => ?_)
        exact w_TP_write_31 hF2  N _ _ _ _ _ _ _ _ hm hw (lv_sub hl [1, 2, 3, 0] rfl)
      · replace hm := tp_if hc3 hm
        refine lv_iconst (v := (0 : Int32)) hx hb d_TP_write_26 (by decide +kernel) ?_
        obtain ⟨rfl, rfl, rfl⟩ := tp_inj3 hm
        exact tp_zret hx hb hr hlocks rfl hw d_TP_write_27
end
abbrev rm_TP_again : Room := { frames := 2, cells := 0, slots := 0, locals := 44 }
abbrev ws_TP_again : List Cond := .code y_TP_again c_TP_again 3 (some .boolean) :: tpG
noncomputable def m_TP_again (N : Nat) (x1 : Int32) (x2 : Int32) (i_c : Int32) (i_f : Nat → Int32) : Option (Int32 × Int32 × (Nat → Int32)) :=
  if x1 < (1 : Int32) then
    some ((0 : Int32), i_c, i_f)
  else
    if i_c < x1 then
      some ((0 : Int32), i_c, i_f)
    else
      if x2 < 0 then
        some ((0 : Int32), i_c, i_f)
      else
        if (lg_cmp ((Int32.toInt64 x1) * (Int32.toInt64 x2)) (Int32.toInt64 ((10000 : Int32) - i_c))) ≤ 0 then
          tp_b2 (m_Row_putBack N x1 (x1 * x2) i_c i_f) fun a_c_5 a_f_6 =>
          some ((1 : Int32), a_c_5, a_f_6)
        else
          some ((0 : Int32), i_c, i_f)
section
variable {p : Program} {l : Launch} {e : Env} {s : State} {m : MethodId} {args : Array Value} {below : List Frame} {meth : Method} {c : Code} {A : Nat → Prop} {D : va_G} {cB cI : ClassId} {tM : Nat}
set_option maxHeartbeats 4000000 in
set_option maxRecDepth 100000 in
theorem ct_TP_again {q_h q_i q_iB q_o q_oB q_t q_tB q_mt q_mtb q_mtl q_bw q_sw q_br q_sr : Nat} {h_place : Int32} {i_c : Int32} {i_f : Nat → Int32} {o_c : Int32} {o_f : Nat → Int32} {t_c : Int32} {t_f : Nat → Int32} {mt_from : Int32} {mt_to : Int32} {mt_len : Int32} {mt_dist : Int32} {mt_bef : Nat → Int32} {mt_lat : Nat → Int32} {br_at : Int32} {br_end : Int32} {br_tb : Int32} {br_len : Int64} {br_fault : Int32} {br_fp : Int32} {sr_at : Int32} {sr_most : Int32} {sr_fault : Int32} {sr_fp : Int32} {N : Nat} {x1 : Int32} {x2 : Int32} {r : Int32} {i_c' : Int32} {i_f' : Nat → Int32} (hm : m_TP_again N x1 x2 i_c i_f = some (r, i_c', i_f')) (sz : Nat) : tp_Ci l y_TP_again ws_TP_again rm_TP_again D (tp_ty cB cI) tM [.ref q_h, .int x1, .int x2] [(q_h, .inr (6, [.ref q_i, .ref q_o, .ref q_t, .ref q_mt, .ref q_bw, .ref q_sw, .ref q_br, .ref q_sr, .int h_place])), (q_i, .inr (3, [.ref q_iB, .int i_c])), (q_iB, .inl (cB, 10000, .inl i_f)), (q_o, .inr (3, [.ref q_oB, .int o_c])), (q_oB, .inl (cB, 10000, .inl o_f)), (q_t, .inr (3, [.ref q_tB, .int t_c])), (q_tB, .inl (cB, 10000, .inl t_f)), (q_mt, .inr (2, [.ref q_i, .ref q_mtb, .ref q_mtl, .int mt_from, .int mt_to, .int mt_len, .int mt_dist])), (q_mtb, .inl (cI, 10000, .inl mt_bef)), (q_mtl, .inl (cI, 2048, .inl mt_lat)), (q_bw, .inr (1, [.ref q_i, .ref q_t, .ref q_mt])), (q_sw, .inr (5, [.ref q_i, .ref q_t, .ref q_bw])), (q_br, .inr (0, [.ref q_i, .ref q_t, .int br_at, .int br_end, .int br_tb, .long br_len, .int br_fault, .int br_fp])), (q_sr, .inr (4, [.ref q_i, .ref q_t, .ref q_br, .int sr_at, .int sr_most, .int sr_fault, .int sr_fp]))] sz r [(q_h, .inr (6, [.ref q_i, .ref q_o, .ref q_t, .ref q_mt, .ref q_bw, .ref q_sw, .ref q_br, .ref q_sr, .int h_place])), (q_i, .inr (3, [.ref q_iB, .int i_c'])), (q_iB, .inl (cB, 10000, .inl i_f')), (q_o, .inr (3, [.ref q_oB, .int o_c])), (q_oB, .inl (cB, 10000, .inl o_f)), (q_t, .inr (3, [.ref q_tB, .int t_c])), (q_tB, .inl (cB, 10000, .inl t_f)), (q_mt, .inr (2, [.ref q_i, .ref q_mtb, .ref q_mtl, .int mt_from, .int mt_to, .int mt_len, .int mt_dist])), (q_mtb, .inl (cI, 10000, .inl mt_bef)), (q_mtl, .inl (cI, 2048, .inl mt_lat)), (q_bw, .inr (1, [.ref q_i, .ref q_t, .ref q_mt])), (q_sw, .inr (5, [.ref q_i, .ref q_t, .ref q_bw])), (q_br, .inr (0, [.ref q_i, .ref q_t, .int br_at, .int br_end, .int br_tb, .long br_len, .int br_fault, .int br_fp])), (q_sr, .inr (4, [.ref q_i, .ref q_t, .ref q_br, .int sr_at, .int sr_most, .int sr_fault, .int sr_fp]))] := by
  refine Met.ofW (cc := c_TP_again) (maxL := 3) (ret := (some .boolean)) (by decide) rfl ?_
  intro p e s m args below meth c s₁ B hml hv
  obtain ⟨rfl, hv⟩ := hv
  have hw := tp_entry hv
  generalize va_A [(q_h, .inr (6, [.ref q_i, .ref q_o, .ref q_t, .ref q_mt, .ref q_bw, .ref q_sw, .ref q_br, .ref q_sr, .int h_place])), (q_i, .inr (3, [.ref q_iB, .int i_c])), (q_iB, .inl (cB, 10000, .inl i_f)), (q_o, .inr (3, [.ref q_oB, .int o_c])), (q_oB, .inl (cB, 10000, .inl o_f)), (q_t, .inr (3, [.ref q_tB, .int t_c])), (q_tB, .inl (cB, 10000, .inl t_f)), (q_mt, .inr (2, [.ref q_i, .ref q_mtb, .ref q_mtl, .int mt_from, .int mt_to, .int mt_len, .int mt_dist])), (q_mtb, .inl (cI, 10000, .inl mt_bef)), (q_mtl, .inl (cI, 2048, .inl mt_lat)), (q_bw, .inr (1, [.ref q_i, .ref q_t, .ref q_mt])), (q_sw, .inr (5, [.ref q_i, .ref q_t, .ref q_bw])), (q_br, .inr (0, [.ref q_i, .ref q_t, .int br_at, .int br_end, .int br_tb, .long br_len, .int br_fault, .int br_fp])), (q_sr, .inr (4, [.ref q_i, .ref q_t, .ref q_br, .int sr_at, .int sr_most, .int sr_fault, .int sr_fp]))] sz = A at hw ⊢
  have hx := B.exec
  have hb := B.bytes
  have hr := B.returns
  have hts0 := atoms_spec (ws := ws_TP_again) B.pre
  have hts := fun w h => hts0 w (List.mem_cons_of_mem _ h)
  have hown : s.vm.findClass R_TP = some m.cls := findClass_of_methodNamed B.named
  have hlocks := B.notSynchronized
  have hF : CallFix p m c c_TP_again 3 s _ tpG R_TP := ⟨hx, hb, hml, hown, hts⟩
  have hF2 : tp_F p m c c_TP_again 3 s _ tpG R_TP meth (some .boolean) := ⟨hF, hr, hlocks⟩
  have hl := lv_entry ([.ref q_h, .int x1, .int x2]) (n := 3) (Nat.le_of_ble_eq_true rfl)
  rw [lg_entry_eq]
  generalize (lg_sl ([.ref q_h, .int x1, .int x2]) ++ List.replicate (3 - (lg_sl ([.ref q_h, .int x1, .int x2])).length) Slot.unset).toArray = ls at hl ⊢
  replace hl : lv_has ls 3 [(0, .ref q_h), (1, .int x1), (2, .int x2)] := hl
  unfold m_TP_again at hm
  refine lv_iload_n hx hb d_TP_again_0 rfl (lv_at hl 1 rfl) ?_
  refine lv_iconst (v := (1 : Int32)) hx hb d_TP_again_1 (by decide +kernel) ?_
  refine lv_icmp_lt (tgt := 41) hx hb d_TP_again_2 (by decide +kernel) (fun hc1 => ?_) (fun hc1 => ?_)
  · replace hm := tp_it hc1 hm
    refine lv_iconst (v := (0 : Int32)) hx hb d_TP_again_41 (by decide +kernel) ?_
    obtain ⟨rfl, rfl, rfl⟩ := tp_inj3 hm
    exact tp_zret hx hb hr hlocks rfl hw d_TP_again_42
  · replace hm := tp_if hc1 hm
    refine lv_iload_n hx hb d_TP_again_5 rfl (lv_at hl 1 rfl) ?_
    refine lv_aload_n hx hb d_TP_again_6 rfl (lv_at hl 0 rfl) ?_
    refine tp_get (v := .ref q_i) (C := R_TP) (T := T_TP) hx hb hts fw_TP hown hw 0 rfl rfl 0 (by decide +kernel) (hts _ wd_233) rfl d_TP_again_7 ?_
    refine tp_getN (v := .int i_c) (C := R_Row) (T := T_Row) hx hb hts fw_Row hown hw 1 rfl rfl 1 (by decide +kernel) nw_11 rfl d_TP_again_10 ?_
    refine lv_icmp_gt (tgt := 41) hx hb d_TP_again_13 (by decide +kernel) (fun hc2 => ?_) (fun hc2 => ?_)
    · replace hm := tp_it hc2 hm
      refine lv_iconst (v := (0 : Int32)) hx hb d_TP_again_41 (by decide +kernel) ?_
      obtain ⟨rfl, rfl, rfl⟩ := tp_inj3 hm
      exact tp_zret hx hb hr hlocks rfl hw d_TP_again_42
    · replace hm := tp_if hc2 hm
      refine lv_iload_n hx hb d_TP_again_16 rfl (lv_at hl 2 rfl) ?_
      refine lv_if_lt (tgt := 41) hx hb d_TP_again_17 (by decide +kernel) (fun hc3 => ?_) (fun hc3 => ?_)
      · replace hm := tp_it hc3 hm
        refine lv_iconst (v := (0 : Int32)) hx hb d_TP_again_41 (by decide +kernel) ?_
        obtain ⟨rfl, rfl, rfl⟩ := tp_inj3 hm
        exact tp_zret hx hb hr hlocks rfl hw d_TP_again_42
      · replace hm := tp_if hc3 hm
        refine lv_iload_n hx hb d_TP_again_20 rfl (lv_at hl 1 rfl) ?_
        refine lv_i2l (v := (Int32.toInt64 x1)) hx hb d_TP_again_21 rfl ?_
        refine lv_iload_n hx hb d_TP_again_22 rfl (lv_at hl 2 rfl) ?_
        refine lv_i2l (v := (Int32.toInt64 x2)) hx hb d_TP_again_23 rfl ?_
        refine lv_lmul hx hb d_TP_again_24 ?_
        refine lv_sipush (v := (10000 : Int32)) hx hb d_TP_again_25 (by decide +kernel) ?_
        refine lv_aload_n hx hb d_TP_again_28 rfl (lv_at hl 0 rfl) ?_
        refine tp_get (v := .ref q_i) (C := R_TP) (T := T_TP) hx hb hts fw_TP hown hw 0 rfl rfl 0 (by decide +kernel) (hts _ wd_233) rfl d_TP_again_29 ?_
        refine tp_getN (v := .int i_c) (C := R_Row) (T := T_Row) hx hb hts fw_Row hown hw 1 rfl rfl 1 (by decide +kernel) nw_11 rfl d_TP_again_32 ?_
        refine lv_isub hx hb d_TP_again_35 ?_
        refine lv_i2l (v := (Int32.toInt64 ((10000 : Int32) - i_c))) hx hb d_TP_again_36 rfl ?_
        refine W.lcmp hx hb d_TP_again_37 ?_
        refine lv_if_le (tgt := 43) hx hb d_TP_again_38 (by decide +kernel) (fun hc4 => ?_) (fun hc4 => ?_)
        · replace hm := tp_it hc4 hm
          refine lv_aload_n hx hb d_TP_again_43 rfl (lv_at hl 0 rfl) ?_
          refine tp_get (v := .ref q_i) (C := R_TP) (T := T_TP) hx hb hts fw_TP hown hw 0 rfl rfl 0 (by decide +kernel) (hts _ wd_233) rfl d_TP_again_44 ?_
          refine lv_iload_n hx hb d_TP_again_47 rfl (lv_at hl 1 rfl) ?_
          refine lv_iload_n hx hb d_TP_again_48 rfl (lv_at hl 1 rfl) ?_
          refine lv_iload_n hx hb d_TP_again_49 rfl (lv_at hl 2 rfl) ?_
          refine lv_imul hx hb d_TP_again_50 ?_
          obtain ⟨a_c_5, a_f_6, hm7, hm⟩ := tp_b2_e hm
          refine tp_callv (wr := [(q_h, .inr (6, [.ref q_i, .ref q_o, .ref q_t, .ref q_mt, .ref q_bw, .ref q_sw, .ref q_br, .ref q_sr, .int h_place])), (q_o, .inr (3, [.ref q_oB, .int o_c])), (q_oB, .inl (cB, 10000, .inl o_f)), (q_t, .inr (3, [.ref q_tB, .int t_c])), (q_tB, .inl (cB, 10000, .inl t_f)), (q_mt, .inr (2, [.ref q_i, .ref q_mtb, .ref q_mtl, .int mt_from, .int mt_to, .int mt_len, .int mt_dist])), (q_mtb, .inl (cI, 10000, .inl mt_bef)), (q_mtl, .inl (cI, 2048, .inl mt_lat)), (q_bw, .inr (1, [.ref q_i, .ref q_t, .ref q_mt])), (q_sw, .inr (5, [.ref q_i, .ref q_t, .ref q_bw])), (q_br, .inr (0, [.ref q_i, .ref q_t, .int br_at, .int br_end, .int br_tb, .long br_len, .int br_fault, .int br_fp])), (q_sr, .inr (4, [.ref q_i, .ref q_t, .ref q_br, .int sr_at, .int sr_most, .int sr_fault, .int sr_fp]))]) (WS' := [(q_h, .inr (6, [.ref q_i, .ref q_o, .ref q_t, .ref q_mt, .ref q_bw, .ref q_sw, .ref q_br, .ref q_sr, .int h_place])), (q_i, .inr (3, [.ref q_iB, .int a_c_5])), (q_iB, .inl (cB, 10000, .inl a_f_6)), (q_o, .inr (3, [.ref q_oB, .int o_c])), (q_oB, .inl (cB, 10000, .inl o_f)), (q_t, .inr (3, [.ref q_tB, .int t_c])), (q_tB, .inl (cB, 10000, .inl t_f)), (q_mt, .inr (2, [.ref q_i, .ref q_mtb, .ref q_mtl, .int mt_from, .int mt_to, .int mt_len, .int mt_dist])), (q_mtb, .inl (cI, 10000, .inl mt_bef)), (q_mtl, .inl (cI, 2048, .inl mt_lat)), (q_bw, .inr (1, [.ref q_i, .ref q_t, .ref q_mt])), (q_sw, .inr (5, [.ref q_i, .ref q_t, .ref q_bw])), (q_br, .inr (0, [.ref q_i, .ref q_t, .int br_at, .int br_end, .int br_tb, .long br_len, .int br_fault, .int br_fp])), (q_sr, .inr (4, [.ref q_i, .ref q_t, .ref q_br, .int sr_at, .int sr_most, .int sr_fault, .int sr_fp]))]) (va_runV (As := [.int x1, .int (x1 * x2)]) (rest := []) hF (ct_Row_putBack (l := l) (D := D) (cB := cB) (cI := cI) (tM := tM) (q_a := q_i) (q_aB := q_iB) (a_c := i_c) (a_f := i_f) (x1 := x1) (x2 := (x1 * x2)) (N := N) (a_c' := a_c_5) (a_f' := a_f_6) hm7 _) (cwV 2 hts (tpG_V wd_236 wd_157 wd_158 wd_3 wd_155) rfl rfl rfl ⟨rfl, yd_Row_putBack⟩ ⟨Nat.le_of_ble_eq_true rfl, Nat.le_of_ble_eq_true rfl⟩) ⟨tp_blind, va_recv hw.1 hw.2.1 (ci := 3) (q0 := 1) rfl rfl, tp_pre hw [1, 2] rfl rfl⟩ rfl rfl hl.1 rfl (lv_room (Nat.le_of_ble_eq_true rfl)) d_TP_again_51 ⟨Nat.le_of_ble_eq_true rfl, Nat.le_of_ble_eq_true rfl⟩) hw [1, 2] [0, 3, 4, 5, 6, 7, 8, 9, 10, 11, 12, 13] [0, 12, 13, 1, 2, 3, 4, 5, 6, 7, 8, 9, 10, 11] rfl rfl rfl (by decide) rfl rfl (fun H locs hw => ?_)
          refine lv_iconst (v := (1 : Int32)) hx hb d_TP_again_54 (by decide +kernel) ?_
          obtain ⟨rfl, rfl, rfl⟩ := tp_inj3 hm
          exact tp_zret hx hb hr hlocks rfl hw d_TP_again_55
        · replace hm := tp_if hc4 hm
          refine lv_iconst (v := (0 : Int32)) hx hb d_TP_again_41 (by decide +kernel) ?_
          obtain ⟨rfl, rfl, rfl⟩ := tp_inj3 hm
          exact tp_zret hx hb hr hlocks rfl hw d_TP_again_42
end
abbrev rm_TP_clear : Room := { frames := 1, cells := 0, slots := 0, locals := 21 }
abbrev ws_TP_clear : List Cond := .code y_TP_clear c_TP_clear 1 none :: tpG
noncomputable def m_TP_clear (i_c : Int32) : Option (Int32) :=
  tp_b1 (m_Row_shorten (0 : Int32) i_c) fun a_c_1 =>
  some (a_c_1)
section
variable {p : Program} {l : Launch} {e : Env} {s : State} {m : MethodId} {args : Array Value} {below : List Frame} {meth : Method} {c : Code} {A : Nat → Prop} {D : va_G} {cB cI : ClassId} {tM : Nat}
set_option maxHeartbeats 4000000 in
set_option maxRecDepth 100000 in
theorem ct_TP_clear {q_h q_i q_iB q_o q_oB q_t q_tB q_mt q_mtb q_mtl q_bw q_sw q_br q_sr : Nat} {h_place : Int32} {i_c : Int32} {i_f : Nat → Int32} {o_c : Int32} {o_f : Nat → Int32} {t_c : Int32} {t_f : Nat → Int32} {mt_from : Int32} {mt_to : Int32} {mt_len : Int32} {mt_dist : Int32} {mt_bef : Nat → Int32} {mt_lat : Nat → Int32} {br_at : Int32} {br_end : Int32} {br_tb : Int32} {br_len : Int64} {br_fault : Int32} {br_fp : Int32} {sr_at : Int32} {sr_most : Int32} {sr_fault : Int32} {sr_fp : Int32} {i_c' : Int32} (hm : m_TP_clear i_c = some (i_c')) (sz : Nat) : tp_Cv l y_TP_clear ws_TP_clear rm_TP_clear D (tp_ty cB cI) tM [.ref q_h] [(q_h, .inr (6, [.ref q_i, .ref q_o, .ref q_t, .ref q_mt, .ref q_bw, .ref q_sw, .ref q_br, .ref q_sr, .int h_place])), (q_i, .inr (3, [.ref q_iB, .int i_c])), (q_iB, .inl (cB, 10000, .inl i_f)), (q_o, .inr (3, [.ref q_oB, .int o_c])), (q_oB, .inl (cB, 10000, .inl o_f)), (q_t, .inr (3, [.ref q_tB, .int t_c])), (q_tB, .inl (cB, 10000, .inl t_f)), (q_mt, .inr (2, [.ref q_i, .ref q_mtb, .ref q_mtl, .int mt_from, .int mt_to, .int mt_len, .int mt_dist])), (q_mtb, .inl (cI, 10000, .inl mt_bef)), (q_mtl, .inl (cI, 2048, .inl mt_lat)), (q_bw, .inr (1, [.ref q_i, .ref q_t, .ref q_mt])), (q_sw, .inr (5, [.ref q_i, .ref q_t, .ref q_bw])), (q_br, .inr (0, [.ref q_i, .ref q_t, .int br_at, .int br_end, .int br_tb, .long br_len, .int br_fault, .int br_fp])), (q_sr, .inr (4, [.ref q_i, .ref q_t, .ref q_br, .int sr_at, .int sr_most, .int sr_fault, .int sr_fp]))] sz [(q_h, .inr (6, [.ref q_i, .ref q_o, .ref q_t, .ref q_mt, .ref q_bw, .ref q_sw, .ref q_br, .ref q_sr, .int h_place])), (q_i, .inr (3, [.ref q_iB, .int i_c'])), (q_iB, .inl (cB, 10000, .inl i_f)), (q_o, .inr (3, [.ref q_oB, .int o_c])), (q_oB, .inl (cB, 10000, .inl o_f)), (q_t, .inr (3, [.ref q_tB, .int t_c])), (q_tB, .inl (cB, 10000, .inl t_f)), (q_mt, .inr (2, [.ref q_i, .ref q_mtb, .ref q_mtl, .int mt_from, .int mt_to, .int mt_len, .int mt_dist])), (q_mtb, .inl (cI, 10000, .inl mt_bef)), (q_mtl, .inl (cI, 2048, .inl mt_lat)), (q_bw, .inr (1, [.ref q_i, .ref q_t, .ref q_mt])), (q_sw, .inr (5, [.ref q_i, .ref q_t, .ref q_bw])), (q_br, .inr (0, [.ref q_i, .ref q_t, .int br_at, .int br_end, .int br_tb, .long br_len, .int br_fault, .int br_fp])), (q_sr, .inr (4, [.ref q_i, .ref q_t, .ref q_br, .int sr_at, .int sr_most, .int sr_fault, .int sr_fp]))] := by
  refine Met.ofW (cc := c_TP_clear) (maxL := 1) (ret := none) (by decide) rfl ?_
  intro p e s m args below meth c s₁ B hml hv
  obtain ⟨rfl, hv⟩ := hv
  have hw := tp_entry hv
  generalize va_A [(q_h, .inr (6, [.ref q_i, .ref q_o, .ref q_t, .ref q_mt, .ref q_bw, .ref q_sw, .ref q_br, .ref q_sr, .int h_place])), (q_i, .inr (3, [.ref q_iB, .int i_c])), (q_iB, .inl (cB, 10000, .inl i_f)), (q_o, .inr (3, [.ref q_oB, .int o_c])), (q_oB, .inl (cB, 10000, .inl o_f)), (q_t, .inr (3, [.ref q_tB, .int t_c])), (q_tB, .inl (cB, 10000, .inl t_f)), (q_mt, .inr (2, [.ref q_i, .ref q_mtb, .ref q_mtl, .int mt_from, .int mt_to, .int mt_len, .int mt_dist])), (q_mtb, .inl (cI, 10000, .inl mt_bef)), (q_mtl, .inl (cI, 2048, .inl mt_lat)), (q_bw, .inr (1, [.ref q_i, .ref q_t, .ref q_mt])), (q_sw, .inr (5, [.ref q_i, .ref q_t, .ref q_bw])), (q_br, .inr (0, [.ref q_i, .ref q_t, .int br_at, .int br_end, .int br_tb, .long br_len, .int br_fault, .int br_fp])), (q_sr, .inr (4, [.ref q_i, .ref q_t, .ref q_br, .int sr_at, .int sr_most, .int sr_fault, .int sr_fp]))] sz = A at hw ⊢
  have hx := B.exec
  have hb := B.bytes
  have hr := B.returns
  have hts0 := atoms_spec (ws := ws_TP_clear) B.pre
  have hts := fun w h => hts0 w (List.mem_cons_of_mem _ h)
  have hown : s.vm.findClass R_TP = some m.cls := findClass_of_methodNamed B.named
  have hlocks := B.notSynchronized
  have hF : CallFix p m c c_TP_clear 1 s _ tpG R_TP := ⟨hx, hb, hml, hown, hts⟩
  have hF2 : tp_F p m c c_TP_clear 1 s _ tpG R_TP meth none := ⟨hF, hr, hlocks⟩
  have hl := lv_entry ([.ref q_h]) (n := 1) (Nat.le_of_ble_eq_true rfl)
  rw [lg_entry_eq]
  generalize (lg_sl ([.ref q_h]) ++ List.replicate (1 - (lg_sl ([.ref q_h])).length) Slot.unset).toArray = ls at hl ⊢
  replace hl : lv_has ls 1 [(0, .ref q_h)] := hl
  unfold m_TP_clear at hm
  refine lv_aload_n hx hb d_TP_clear_0 rfl (lv_at hl 0 rfl) ?_
  refine tp_get (v := .ref q_i) (C := R_TP) (T := T_TP) hx hb hts fw_TP hown hw 0 rfl rfl 0 (by decide +kernel) (hts _ wd_233) rfl d_TP_clear_1 ?_
  refine lv_iconst (v := (0 : Int32)) hx hb d_TP_clear_4 (by decide +kernel) ?_
  obtain ⟨a_c_1, hm2, hm⟩ := tp_b1_e hm
  refine tp_callv (wr := [(q_h, .inr (6, [.ref q_i, .ref q_o, .ref q_t, .ref q_mt, .ref q_bw, .ref q_sw, .ref q_br, .ref q_sr, .int h_place])), (q_o, .inr (3, [.ref q_oB, .int o_c])), (q_oB, .inl (cB, 10000, .inl o_f)), (q_t, .inr (3, [.ref q_tB, .int t_c])), (q_tB, .inl (cB, 10000, .inl t_f)), (q_mt, .inr (2, [.ref q_i, .ref q_mtb, .ref q_mtl, .int mt_from, .int mt_to, .int mt_len, .int mt_dist])), (q_mtb, .inl (cI, 10000, .inl mt_bef)), (q_mtl, .inl (cI, 2048, .inl mt_lat)), (q_bw, .inr (1, [.ref q_i, .ref q_t, .ref q_mt])), (q_sw, .inr (5, [.ref q_i, .ref q_t, .ref q_bw])), (q_br, .inr (0, [.ref q_i, .ref q_t, .int br_at, .int br_end, .int br_tb, .long br_len, .int br_fault, .int br_fp])), (q_sr, .inr (4, [.ref q_i, .ref q_t, .ref q_br, .int sr_at, .int sr_most, .int sr_fault, .int sr_fp]))]) (WS' := [(q_h, .inr (6, [.ref q_i, .ref q_o, .ref q_t, .ref q_mt, .ref q_bw, .ref q_sw, .ref q_br, .ref q_sr, .int h_place])), (q_i, .inr (3, [.ref q_iB, .int a_c_1])), (q_iB, .inl (cB, 10000, .inl i_f)), (q_o, .inr (3, [.ref q_oB, .int o_c])), (q_oB, .inl (cB, 10000, .inl o_f)), (q_t, .inr (3, [.ref q_tB, .int t_c])), (q_tB, .inl (cB, 10000, .inl t_f)), (q_mt, .inr (2, [.ref q_i, .ref q_mtb, .ref q_mtl, .int mt_from, .int mt_to, .int mt_len, .int mt_dist])), (q_mtb, .inl (cI, 10000, .inl mt_bef)), (q_mtl, .inl (cI, 2048, .inl mt_lat)), (q_bw, .inr (1, [.ref q_i, .ref q_t, .ref q_mt])), (q_sw, .inr (5, [.ref q_i, .ref q_t, .ref q_bw])), (q_br, .inr (0, [.ref q_i, .ref q_t, .int br_at, .int br_end, .int br_tb, .long br_len, .int br_fault, .int br_fp])), (q_sr, .inr (4, [.ref q_i, .ref q_t, .ref q_br, .int sr_at, .int sr_most, .int sr_fault, .int sr_fp]))]) (va_runV (As := [.int (0 : Int32)]) (rest := []) hF (ct_Row_shorten (l := l) (D := D) (cB := cB) (cI := cI) (tM := tM) (q_a := q_i) (q_aB := q_iB) (a_c := i_c) (a_f := i_f) (x1 := (0 : Int32)) (a_c' := a_c_1) hm2 _) (cwV 1 hts (tpG_V wd_237 wd_127 wd_128 wd_3 wd_125) rfl rfl rfl ⟨rfl, yd_Row_shorten⟩ ⟨Nat.le_of_ble_eq_true rfl, Nat.le_of_ble_eq_true rfl⟩) ⟨tp_blind, va_recv hw.1 hw.2.1 (ci := 3) (q0 := 1) rfl rfl, tp_pre hw [1, 2] rfl rfl⟩ rfl rfl hl.1 rfl (lv_room (Nat.le_of_ble_eq_true rfl)) d_TP_clear_5 ⟨Nat.le_of_ble_eq_true rfl, Nat.le_of_ble_eq_true rfl⟩) hw [1, 2] [0, 3, 4, 5, 6, 7, 8, 9, 10, 11, 12, 13] [0, 12, 13, 1, 2, 3, 4, 5, 6, 7, 8, 9, 10, 11] rfl rfl rfl (by decide) rfl rfl (fun H locs hw => ?_)
  obtain rfl := tp_inj1 hm
  exact tp_vret () hx hb hr hlocks hw d_TP_clear_8
end
abbrev rm_TP_turn : Room := { frames := 2, cells := 0, slots := 0, locals := 61 }
abbrev ws_TP_turn : List Cond := .code y_TP_turn c_TP_turn 1 none :: tpG
noncomputable def m_TP_turn (i_c : Int32) (i_f : Nat → Int32) (o_c : Int32) (o_f : Nat → Int32) : Option (Int32 × (Nat → Int32)) :=
  tp_b2 (m_Row_become i_c i_f o_c o_f) fun a_c_1 a_f_2 =>
  some (a_c_1, a_f_2)
section
variable {p : Program} {l : Launch} {e : Env} {s : State} {m : MethodId} {args : Array Value} {below : List Frame} {meth : Method} {c : Code} {A : Nat → Prop} {D : va_G} {cB cI : ClassId} {tM : Nat}
set_option maxHeartbeats 4000000 in
set_option maxRecDepth 100000 in
theorem ct_TP_turn {q_h q_i q_iB q_o q_oB q_t q_tB q_mt q_mtb q_mtl q_bw q_sw q_br q_sr : Nat} {h_place : Int32} {i_c : Int32} {i_f : Nat → Int32} {o_c : Int32} {o_f : Nat → Int32} {t_c : Int32} {t_f : Nat → Int32} {mt_from : Int32} {mt_to : Int32} {mt_len : Int32} {mt_dist : Int32} {mt_bef : Nat → Int32} {mt_lat : Nat → Int32} {br_at : Int32} {br_end : Int32} {br_tb : Int32} {br_len : Int64} {br_fault : Int32} {br_fp : Int32} {sr_at : Int32} {sr_most : Int32} {sr_fault : Int32} {sr_fp : Int32} {i_c' : Int32} {i_f' : Nat → Int32} (hm : m_TP_turn i_c i_f o_c o_f = some (i_c', i_f')) (sz : Nat) : tp_Cv l y_TP_turn ws_TP_turn rm_TP_turn D (tp_ty cB cI) tM [.ref q_h] [(q_h, .inr (6, [.ref q_i, .ref q_o, .ref q_t, .ref q_mt, .ref q_bw, .ref q_sw, .ref q_br, .ref q_sr, .int h_place])), (q_i, .inr (3, [.ref q_iB, .int i_c])), (q_iB, .inl (cB, 10000, .inl i_f)), (q_o, .inr (3, [.ref q_oB, .int o_c])), (q_oB, .inl (cB, 10000, .inl o_f)), (q_t, .inr (3, [.ref q_tB, .int t_c])), (q_tB, .inl (cB, 10000, .inl t_f)), (q_mt, .inr (2, [.ref q_i, .ref q_mtb, .ref q_mtl, .int mt_from, .int mt_to, .int mt_len, .int mt_dist])), (q_mtb, .inl (cI, 10000, .inl mt_bef)), (q_mtl, .inl (cI, 2048, .inl mt_lat)), (q_bw, .inr (1, [.ref q_i, .ref q_t, .ref q_mt])), (q_sw, .inr (5, [.ref q_i, .ref q_t, .ref q_bw])), (q_br, .inr (0, [.ref q_i, .ref q_t, .int br_at, .int br_end, .int br_tb, .long br_len, .int br_fault, .int br_fp])), (q_sr, .inr (4, [.ref q_i, .ref q_t, .ref q_br, .int sr_at, .int sr_most, .int sr_fault, .int sr_fp]))] sz [(q_h, .inr (6, [.ref q_i, .ref q_o, .ref q_t, .ref q_mt, .ref q_bw, .ref q_sw, .ref q_br, .ref q_sr, .int h_place])), (q_i, .inr (3, [.ref q_iB, .int i_c'])), (q_iB, .inl (cB, 10000, .inl i_f')), (q_o, .inr (3, [.ref q_oB, .int o_c])), (q_oB, .inl (cB, 10000, .inl o_f)), (q_t, .inr (3, [.ref q_tB, .int t_c])), (q_tB, .inl (cB, 10000, .inl t_f)), (q_mt, .inr (2, [.ref q_i, .ref q_mtb, .ref q_mtl, .int mt_from, .int mt_to, .int mt_len, .int mt_dist])), (q_mtb, .inl (cI, 10000, .inl mt_bef)), (q_mtl, .inl (cI, 2048, .inl mt_lat)), (q_bw, .inr (1, [.ref q_i, .ref q_t, .ref q_mt])), (q_sw, .inr (5, [.ref q_i, .ref q_t, .ref q_bw])), (q_br, .inr (0, [.ref q_i, .ref q_t, .int br_at, .int br_end, .int br_tb, .long br_len, .int br_fault, .int br_fp])), (q_sr, .inr (4, [.ref q_i, .ref q_t, .ref q_br, .int sr_at, .int sr_most, .int sr_fault, .int sr_fp]))] := by
  refine Met.ofW (cc := c_TP_turn) (maxL := 1) (ret := none) (by decide) rfl ?_
  intro p e s m args below meth c s₁ B hml hv
  obtain ⟨rfl, hv⟩ := hv
  have hw := tp_entry hv
  generalize va_A [(q_h, .inr (6, [.ref q_i, .ref q_o, .ref q_t, .ref q_mt, .ref q_bw, .ref q_sw, .ref q_br, .ref q_sr, .int h_place])), (q_i, .inr (3, [.ref q_iB, .int i_c])), (q_iB, .inl (cB, 10000, .inl i_f)), (q_o, .inr (3, [.ref q_oB, .int o_c])), (q_oB, .inl (cB, 10000, .inl o_f)), (q_t, .inr (3, [.ref q_tB, .int t_c])), (q_tB, .inl (cB, 10000, .inl t_f)), (q_mt, .inr (2, [.ref q_i, .ref q_mtb, .ref q_mtl, .int mt_from, .int mt_to, .int mt_len, .int mt_dist])), (q_mtb, .inl (cI, 10000, .inl mt_bef)), (q_mtl, .inl (cI, 2048, .inl mt_lat)), (q_bw, .inr (1, [.ref q_i, .ref q_t, .ref q_mt])), (q_sw, .inr (5, [.ref q_i, .ref q_t, .ref q_bw])), (q_br, .inr (0, [.ref q_i, .ref q_t, .int br_at, .int br_end, .int br_tb, .long br_len, .int br_fault, .int br_fp])), (q_sr, .inr (4, [.ref q_i, .ref q_t, .ref q_br, .int sr_at, .int sr_most, .int sr_fault, .int sr_fp]))] sz = A at hw ⊢
  have hx := B.exec
  have hb := B.bytes
  have hr := B.returns
  have hts0 := atoms_spec (ws := ws_TP_turn) B.pre
  have hts := fun w h => hts0 w (List.mem_cons_of_mem _ h)
  have hown : s.vm.findClass R_TP = some m.cls := findClass_of_methodNamed B.named
  have hlocks := B.notSynchronized
  have hF : CallFix p m c c_TP_turn 1 s _ tpG R_TP := ⟨hx, hb, hml, hown, hts⟩
  have hF2 : tp_F p m c c_TP_turn 1 s _ tpG R_TP meth none := ⟨hF, hr, hlocks⟩
  have hl := lv_entry ([.ref q_h]) (n := 1) (Nat.le_of_ble_eq_true rfl)
  rw [lg_entry_eq]
  generalize (lg_sl ([.ref q_h]) ++ List.replicate (1 - (lg_sl ([.ref q_h])).length) Slot.unset).toArray = ls at hl ⊢
  replace hl : lv_has ls 1 [(0, .ref q_h)] := hl
  unfold m_TP_turn at hm
  refine lv_aload_n hx hb d_TP_turn_0 rfl (lv_at hl 0 rfl) ?_
  refine tp_get (v := .ref q_i) (C := R_TP) (T := T_TP) hx hb hts fw_TP hown hw 0 rfl rfl 0 (by decide +kernel) (hts _ wd_233) rfl d_TP_turn_1 ?_
  refine lv_aload_n hx hb d_TP_turn_4 rfl (lv_at hl 0 rfl) ?_
  refine tp_get (v := .ref q_o) (C := R_TP) (T := T_TP) hx hb hts fw_TP hown hw 0 rfl rfl 1 (by decide +kernel) (hts _ wd_228) rfl d_TP_turn_5 ?_
  obtain ⟨a_c_1, a_f_2, hm3, hm⟩ := tp_b2_e hm
  refine tp_callv (wr := [(q_h, .inr (6, [.ref q_i, .ref q_o, .ref q_t, .ref q_mt, .ref q_bw, .ref q_sw, .ref q_br, .ref q_sr, .int h_place])), (q_t, .inr (3, [.ref q_tB, .int t_c])), (q_tB, .inl (cB, 10000, .inl t_f)), (q_mt, .inr (2, [.ref q_i, .ref q_mtb, .ref q_mtl, .int mt_from, .int mt_to, .int mt_len, .int mt_dist])), (q_mtb, .inl (cI, 10000, .inl mt_bef)), (q_mtl, .inl (cI, 2048, .inl mt_lat)), (q_bw, .inr (1, [.ref q_i, .ref q_t, .ref q_mt])), (q_sw, .inr (5, [.ref q_i, .ref q_t, .ref q_bw])), (q_br, .inr (0, [.ref q_i, .ref q_t, .int br_at, .int br_end, .int br_tb, .long br_len, .int br_fault, .int br_fp])), (q_sr, .inr (4, [.ref q_i, .ref q_t, .ref q_br, .int sr_at, .int sr_most, .int sr_fault, .int sr_fp]))]) (WS' := [(q_h, .inr (6, [.ref q_i, .ref q_o, .ref q_t, .ref q_mt, .ref q_bw, .ref q_sw, .ref q_br, .ref q_sr, .int h_place])), (q_i, .inr (3, [.ref q_iB, .int a_c_1])), (q_iB, .inl (cB, 10000, .inl a_f_2)), (q_o, .inr (3, [.ref q_oB, .int o_c])), (q_oB, .inl (cB, 10000, .inl o_f)), (q_t, .inr (3, [.ref q_tB, .int t_c])), (q_tB, .inl (cB, 10000, .inl t_f)), (q_mt, .inr (2, [.ref q_i, .ref q_mtb, .ref q_mtl, .int mt_from, .int mt_to, .int mt_len, .int mt_dist])), (q_mtb, .inl (cI, 10000, .inl mt_bef)), (q_mtl, .inl (cI, 2048, .inl mt_lat)), (q_bw, .inr (1, [.ref q_i, .ref q_t, .ref q_mt])), (q_sw, .inr (5, [.ref q_i, .ref q_t, .ref q_bw])), (q_br, .inr (0, [.ref q_i, .ref q_t, .int br_at, .int br_end, .int br_tb, .long br_len, .int br_fault, .int br_fp])), (q_sr, .inr (4, [.ref q_i, .ref q_t, .ref q_br, .int sr_at, .int sr_most, .int sr_fault, .int sr_fp]))]) (va_runV (As := [.ref q_o]) (rest := []) hF (ct_Row_become (l := l) (D := D) (cB := cB) (cI := cI) (tM := tM) (q_a := q_i) (q_aB := q_iB) (q_b := q_o) (q_bB := q_oB) (a_c := i_c) (a_f := i_f) (b_c := o_c) (b_f := o_f) (a_c' := a_c_1) (a_f' := a_f_2) hm3 _) (cwV 1 hts (tpG_V wd_230 wd_231 wd_232 wd_3 wd_229) rfl rfl rfl ⟨rfl, yd_Row_become⟩ ⟨Nat.le_of_ble_eq_true rfl, Nat.le_of_ble_eq_true rfl⟩) ⟨tp_blind, va_recv hw.1 hw.2.1 (ci := 3) (q0 := 1) rfl rfl, tp_pre hw [1, 2, 3, 4] rfl rfl⟩ rfl rfl hl.1 rfl (lv_room (Nat.le_of_ble_eq_true rfl)) d_TP_turn_8 ⟨Nat.le_of_ble_eq_true rfl, Nat.le_of_ble_eq_true rfl⟩) hw [1, 2, 3, 4] [0, 5, 6, 7, 8, 9, 10, 11, 12, 13] [0, 10, 11, 12, 13, 1, 2, 3, 4, 5, 6, 7, 8, 9] rfl rfl rfl (by decide) rfl rfl (fun H locs hw => ?_)
  obtain ⟨rfl, rfl⟩ := tp_inj2 hm
  exact tp_vret () hx hb hr hlocks hw d_TP_turn_11
end
abbrev rm_TP_pack : Room := { frames := 5, cells := 0, slots := 0, locals := 118 }
abbrev ws_TP_pack : List Cond := .code y_TP_pack c_TP_pack 2 (some .int) :: tpG
noncomputable def m_TP_pack (N : Nat) (x1 : Int32) (i_c : Int32) (i_f : Nat → Int32) (o_c : Int32) (o_f : Nat → Int32) (t_c : Int32) (t_f : Nat → Int32) (mt_from : Int32) (mt_to : Int32) (mt_len : Int32) (mt_dist : Int32) (mt_bef : Nat → Int32) (mt_lat : Nat → Int32) : Option (Int32 × Int32 × (Nat → Int32) × Int32 × (Nat → Int32) × Int32 × Int32 × Int32 × Int32 × (Nat → Int32) × (Nat → Int32)) :=
  tp_b1 (m_TP_isNoWay x1) fun r1 =>
  if r1 = 0 then
    tp_b1 (m_Row_shorten (0 : Int32) t_c) fun a_c_4 =>
    tp_b2 (m_Matches_index N i_c i_f mt_bef mt_lat) fun mt_bef_6 mt_lat_7 =>
    tp_b6 (m_BlockWriter_putBlock N (0 : Int32) i_c x1 i_c i_f a_c_4 t_f mt_from mt_to mt_len mt_dist mt_bef_6) fun t_c_9 t_f_10 mt_from_11 mt_to_12 mt_len_13 mt_dist_14 =>
    tp_b3 (m_TP_endWriting o_c o_f t_c_9 t_f_10) fun r16 o_c_17 o_f_18 =>
    some (r16, o_c_17, o_f_18, t_c_9, t_f_10, mt_from_11, mt_to_12, mt_len_13, mt_dist_14, mt_bef_6, mt_lat_7)
  else
    some ((-1 : Int32), o_c, o_f, t_c, t_f, mt_from, mt_to, mt_len, mt_dist, mt_bef, mt_lat)
section
variable {p : Program} {l : Launch} {e : Env} {s : State} {m : MethodId} {args : Array Value} {below : List Frame} {meth : Method} {c : Code} {A : Nat → Prop} {D : va_G} {cB cI : ClassId} {tM : Nat}
set_option maxHeartbeats 4000000 in
set_option maxRecDepth 100000 in
theorem ct_TP_pack {q_h q_i q_iB q_o q_oB q_t q_tB q_mt q_mtb q_mtl q_bw q_sw q_br q_sr : Nat} {h_place : Int32} {i_c : Int32} {i_f : Nat → Int32} {o_c : Int32} {o_f : Nat → Int32} {t_c : Int32} {t_f : Nat → Int32} {mt_from : Int32} {mt_to : Int32} {mt_len : Int32} {mt_dist : Int32} {mt_bef : Nat → Int32} {mt_lat : Nat → Int32} {br_at : Int32} {br_end : Int32} {br_tb : Int32} {br_len : Int64} {br_fault : Int32} {br_fp : Int32} {sr_at : Int32} {sr_most : Int32} {sr_fault : Int32} {sr_fp : Int32} {N : Nat} {x1 : Int32} {r : Int32} {o_c' : Int32} {o_f' : Nat → Int32} {t_c' : Int32} {t_f' : Nat → Int32} {mt_from' : Int32} {mt_to' : Int32} {mt_len' : Int32} {mt_dist' : Int32} {mt_bef' : Nat → Int32} {mt_lat' : Nat → Int32} (hm : m_TP_pack N x1 i_c i_f o_c o_f t_c t_f mt_from mt_to mt_len mt_dist mt_bef mt_lat = some (r, o_c', o_f', t_c', t_f', mt_from', mt_to', mt_len', mt_dist', mt_bef', mt_lat')) (sz : Nat) : tp_Ci l y_TP_pack ws_TP_pack rm_TP_pack D (tp_ty cB cI) tM [.ref q_h, .int x1] [(q_h, .inr (6, [.ref q_i, .ref q_o, .ref q_t, .ref q_mt, .ref q_bw, .ref q_sw, .ref q_br, .ref q_sr, .int h_place])), (q_i, .inr (3, [.ref q_iB, .int i_c])), (q_iB, .inl (cB, 10000, .inl i_f)), (q_o, .inr (3, [.ref q_oB, .int o_c])), (q_oB, .inl (cB, 10000, .inl o_f)), (q_t, .inr (3, [.ref q_tB, .int t_c])), (q_tB, .inl (cB, 10000, .inl t_f)), (q_mt, .inr (2, [.ref q_i, .ref q_mtb, .ref q_mtl, .int mt_from, .int mt_to, .int mt_len, .int mt_dist])), (q_mtb, .inl (cI, 10000, .inl mt_bef)), (q_mtl, .inl (cI, 2048, .inl mt_lat)), (q_bw, .inr (1, [.ref q_i, .ref q_t, .ref q_mt])), (q_sw, .inr (5, [.ref q_i, .ref q_t, .ref q_bw])), (q_br, .inr (0, [.ref q_i, .ref q_t, .int br_at, .int br_end, .int br_tb, .long br_len, .int br_fault, .int br_fp])), (q_sr, .inr (4, [.ref q_i, .ref q_t, .ref q_br, .int sr_at, .int sr_most, .int sr_fault, .int sr_fp]))] sz r [(q_h, .inr (6, [.ref q_i, .ref q_o, .ref q_t, .ref q_mt, .ref q_bw, .ref q_sw, .ref q_br, .ref q_sr, .int h_place])), (q_i, .inr (3, [.ref q_iB, .int i_c])), (q_iB, .inl (cB, 10000, .inl i_f)), (q_o, .inr (3, [.ref q_oB, .int o_c'])), (q_oB, .inl (cB, 10000, .inl o_f')), (q_t, .inr (3, [.ref q_tB, .int t_c'])), (q_tB, .inl (cB, 10000, .inl t_f')), (q_mt, .inr (2, [.ref q_i, .ref q_mtb, .ref q_mtl, .int mt_from', .int mt_to', .int mt_len', .int mt_dist'])), (q_mtb, .inl (cI, 10000, .inl mt_bef')), (q_mtl, .inl (cI, 2048, .inl mt_lat')), (q_bw, .inr (1, [.ref q_i, .ref q_t, .ref q_mt])), (q_sw, .inr (5, [.ref q_i, .ref q_t, .ref q_bw])), (q_br, .inr (0, [.ref q_i, .ref q_t, .int br_at, .int br_end, .int br_tb, .long br_len, .int br_fault, .int br_fp])), (q_sr, .inr (4, [.ref q_i, .ref q_t, .ref q_br, .int sr_at, .int sr_most, .int sr_fault, .int sr_fp]))] := by
  refine Met.ofW (cc := c_TP_pack) (maxL := 2) (ret := (some .int)) (by decide) rfl ?_
  intro p e s m args below meth c s₁ B hml hv
  obtain ⟨rfl, hv⟩ := hv
  have hw := tp_entry hv
  generalize va_A [(q_h, .inr (6, [.ref q_i, .ref q_o, .ref q_t, .ref q_mt, .ref q_bw, .ref q_sw, .ref q_br, .ref q_sr, .int h_place])), (q_i, .inr (3, [.ref q_iB, .int i_c])), (q_iB, .inl (cB, 10000, .inl i_f)), (q_o, .inr (3, [.ref q_oB, .int o_c])), (q_oB, .inl (cB, 10000, .inl o_f)), (q_t, .inr (3, [.ref q_tB, .int t_c])), (q_tB, .inl (cB, 10000, .inl t_f)), (q_mt, .inr (2, [.ref q_i, .ref q_mtb, .ref q_mtl, .int mt_from, .int mt_to, .int mt_len, .int mt_dist])), (q_mtb, .inl (cI, 10000, .inl mt_bef)), (q_mtl, .inl (cI, 2048, .inl mt_lat)), (q_bw, .inr (1, [.ref q_i, .ref q_t, .ref q_mt])), (q_sw, .inr (5, [.ref q_i, .ref q_t, .ref q_bw])), (q_br, .inr (0, [.ref q_i, .ref q_t, .int br_at, .int br_end, .int br_tb, .long br_len, .int br_fault, .int br_fp])), (q_sr, .inr (4, [.ref q_i, .ref q_t, .ref q_br, .int sr_at, .int sr_most, .int sr_fault, .int sr_fp]))] sz = A at hw ⊢
  have hx := B.exec
  have hb := B.bytes
  have hr := B.returns
  have hts0 := atoms_spec (ws := ws_TP_pack) B.pre
  have hts := fun w h => hts0 w (List.mem_cons_of_mem _ h)
  have hown : s.vm.findClass R_TP = some m.cls := findClass_of_methodNamed B.named
  have hlocks := B.notSynchronized
  have hF : CallFix p m c c_TP_pack 2 s _ tpG R_TP := ⟨hx, hb, hml, hown, hts⟩
  have hF2 : tp_F p m c c_TP_pack 2 s _ tpG R_TP meth (some .int) := ⟨hF, hr, hlocks⟩
  have hl := lv_entry ([.ref q_h, .int x1]) (n := 2) (Nat.le_of_ble_eq_true rfl)
  rw [lg_entry_eq]
  generalize (lg_sl ([.ref q_h, .int x1]) ++ List.replicate (2 - (lg_sl ([.ref q_h, .int x1])).length) Slot.unset).toArray = ls at hl ⊢
  replace hl : lv_has ls 2 [(0, .ref q_h), (1, .int x1)] := hl
  unfold m_TP_pack at hm
  refine lv_iload_n hx hb d_TP_pack_0 rfl (lv_at hl 1 rfl) ?_
  obtain ⟨r1, hm2, hm⟩ := tp_b1_e hm
  refine tp_calli (wr := [(q_h, .inr (6, [.ref q_i, .ref q_o, .ref q_t, .ref q_mt, .ref q_bw, .ref q_sw, .ref q_br, .ref q_sr, .int h_place])), (q_i, .inr (3, [.ref q_iB, .int i_c])), (q_iB, .inl (cB, 10000, .inl i_f)), (q_o, .inr (3, [.ref q_oB, .int o_c])), (q_oB, .inl (cB, 10000, .inl o_f)), (q_t, .inr (3, [.ref q_tB, .int t_c])), (q_tB, .inl (cB, 10000, .inl t_f)), (q_mt, .inr (2, [.ref q_i, .ref q_mtb, .ref q_mtl, .int mt_from, .int mt_to, .int mt_len, .int mt_dist])), (q_mtb, .inl (cI, 10000, .inl mt_bef)), (q_mtl, .inl (cI, 2048, .inl mt_lat)), (q_bw, .inr (1, [.ref q_i, .ref q_t, .ref q_mt])), (q_sw, .inr (5, [.ref q_i, .ref q_t, .ref q_bw])), (q_br, .inr (0, [.ref q_i, .ref q_t, .int br_at, .int br_end, .int br_tb, .long br_len, .int br_fault, .int br_fp])), (q_sr, .inr (4, [.ref q_i, .ref q_t, .ref q_br, .int sr_at, .int sr_most, .int sr_fault, .int sr_fp]))]) (WS' := [(q_h, .inr (6, [.ref q_i, .ref q_o, .ref q_t, .ref q_mt, .ref q_bw, .ref q_sw, .ref q_br, .ref q_sr, .int h_place])), (q_i, .inr (3, [.ref q_iB, .int i_c])), (q_iB, .inl (cB, 10000, .inl i_f)), (q_o, .inr (3, [.ref q_oB, .int o_c])), (q_oB, .inl (cB, 10000, .inl o_f)), (q_t, .inr (3, [.ref q_tB, .int t_c])), (q_tB, .inl (cB, 10000, .inl t_f)), (q_mt, .inr (2, [.ref q_i, .ref q_mtb, .ref q_mtl, .int mt_from, .int mt_to, .int mt_len, .int mt_dist])), (q_mtb, .inl (cI, 10000, .inl mt_bef)), (q_mtl, .inl (cI, 2048, .inl mt_lat)), (q_bw, .inr (1, [.ref q_i, .ref q_t, .ref q_mt])), (q_sw, .inr (5, [.ref q_i, .ref q_t, .ref q_bw])), (q_br, .inr (0, [.ref q_i, .ref q_t, .int br_at, .int br_end, .int br_tb, .long br_len, .int br_fault, .int br_fp])), (q_sr, .inr (4, [.ref q_i, .ref q_t, .ref q_br, .int sr_at, .int sr_most, .int sr_fault, .int sr_fp]))]) (va_runS (As := [.int x1]) (rest := []) hF (ct_TP_isNoWay (l := l) (D := D) (cB := cB) (cI := cI) (tM := tM) (x0 := x1) (r := r1) hm2 _) (va_cwS 1 hts (tpG_S wd_240 wd_241 wd_239 wd_238) rfl rfl rfl yd_TP_isNoWay ⟨Nat.le_of_ble_eq_true rfl, Nat.le_of_ble_eq_true rfl⟩) ⟨tp_blind, tp_pre hw [] rfl rfl⟩ rfl rfl hl.1 rfl (lv_room (Nat.le_of_ble_eq_true rfl)) d_TP_pack_1 ⟨Nat.le_of_ble_eq_true rfl, Nat.le_of_ble_eq_true rfl⟩) hw [] [0, 1, 2, 3, 4, 5, 6, 7, 8, 9, 10, 11, 12, 13] [0, 1, 2, 3, 4, 5, 6, 7, 8, 9, 10, 11, 12, 13] rfl rfl rfl (by decide) rfl rfl (fun H locs hw => ?_)
  refine lv_if_eq (tgt := 9) hx hb d_TP_pack_4 (by decide +kernel) (fun hc3 => ?_) (fun hc3 => ?_)
  · replace hm := tp_it hc3 hm
    refine lv_aload_n hx hb d_TP_pack_9 rfl (lv_at hl 0 rfl) ?_
    refine tp_get (v := .ref q_t) (C := R_TP) (T := T_TP) hx hb hts fw_TP hown hw 0 rfl rfl 2 (by decide +kernel) (hts _ wd_226) rfl d_TP_pack_10 ?_
    refine lv_iconst (v := (0 : Int32)) hx hb d_TP_pack_13 (by decide +kernel) ?_
    obtain ⟨a_c_4, hm5, hm⟩ := tp_b1_e hm
    refine tp_callv (wr := [(q_h, .inr (6, [.ref q_i, .ref q_o, .ref q_t, .ref q_mt, .ref q_bw, .ref q_sw, .ref q_br, .ref q_sr, .int h_place])), (q_i, .inr (3, [.ref q_iB, .int i_c])), (q_iB, .inl (cB, 10000, .inl i_f)), (q_o, .inr (3, [.ref q_oB, .int o_c])), (q_oB, .inl (cB, 10000, .inl o_f)), (q_mt, .inr (2, [.ref q_i, .ref q_mtb, .ref q_mtl, .int mt_from, .int mt_to, .int mt_len, .int mt_dist])), (q_mtb, .inl (cI, 10000, .inl mt_bef)), (q_mtl, .inl (cI, 2048, .inl mt_lat)), (q_bw, .inr (1, [.ref q_i, .ref q_t, .ref q_mt])), (q_sw, .inr (5, [.ref q_i, .ref q_t, .ref q_bw])), (q_br, .inr (0, [.ref q_i, .ref q_t, .int br_at, .int br_end, .int br_tb, .long br_len, .int br_fault, .int br_fp])), (q_sr, .inr (4, [.ref q_i, .ref q_t, .ref q_br, .int sr_at, .int sr_most, .int sr_fault, .int sr_fp]))]) (WS' := [(q_h, .inr (6, [.ref q_i, .ref q_o, .ref q_t, .ref q_mt, .ref q_bw, .ref q_sw, .ref q_br, .ref q_sr, .int h_place])), (q_i, .inr (3, [.ref q_iB, .int i_c])), (q_iB, .inl (cB, 10000, .inl i_f)), (q_o, .inr (3, [.ref q_oB, .int o_c])), (q_oB, .inl (cB, 10000, .inl o_f)), (q_t, .inr (3, [.ref q_tB, .int a_c_4])), (q_tB, .inl (cB, 10000, .inl t_f)), (q_mt, .inr (2, [.ref q_i, .ref q_mtb, .ref q_mtl, .int mt_from, .int mt_to, .int mt_len, .int mt_dist])), (q_mtb, .inl (cI, 10000, .inl mt_bef)), (q_mtl, .inl (cI, 2048, .inl mt_lat)), (q_bw, .inr (1, [.ref q_i, .ref q_t, .ref q_mt])), (q_sw, .inr (5, [.ref q_i, .ref q_t, .ref q_bw])), (q_br, .inr (0, [.ref q_i, .ref q_t, .int br_at, .int br_end, .int br_tb, .long br_len, .int br_fault, .int br_fp])), (q_sr, .inr (4, [.ref q_i, .ref q_t, .ref q_br, .int sr_at, .int sr_most, .int sr_fault, .int sr_fp]))]) (va_runV (As := [.int (0 : Int32)]) (rest := []) hF (ct_Row_shorten (l := l) (D := D) (cB := cB) (cI := cI) (tM := tM) (q_a := q_t) (q_aB := q_tB) (a_c := t_c) (a_f := t_f) (x1 := (0 : Int32)) (a_c' := a_c_4) hm5 _) (cwV 1 hts (tpG_V wd_237 wd_127 wd_128 wd_3 wd_125) rfl rfl rfl ⟨rfl, yd_Row_shorten⟩ ⟨Nat.le_of_ble_eq_true rfl, Nat.le_of_ble_eq_true rfl⟩) ⟨tp_blind, va_recv hw.1 hw.2.1 (ci := 3) (q0 := 5) rfl rfl, tp_pre hw [5, 6] rfl rfl⟩ rfl rfl hl.1 rfl (lv_room (Nat.le_of_ble_eq_true rfl)) d_TP_pack_14 ⟨Nat.le_of_ble_eq_true rfl, Nat.le_of_ble_eq_true rfl⟩) hw [5, 6] [0, 1, 2, 3, 4, 7, 8, 9, 10, 11, 12, 13] [0, 1, 2, 3, 4, 12, 13, 5, 6, 7, 8, 9, 10, 11] rfl rfl rfl (by decide) rfl rfl (fun H locs hw => ?_)
    refine lv_aload_n hx hb d_TP_pack_17 rfl (lv_at hl 0 rfl) ?_
    refine tp_get (v := .ref q_mt) (C := R_TP) (T := T_TP) hx hb hts fw_TP hown hw 0 rfl rfl 3 (by decide +kernel) (hts _ wd_242) rfl d_TP_pack_18 ?_
    obtain ⟨mt_bef_6, mt_lat_7, hm8, hm⟩ := tp_b2_e hm
    refine tp_callv (wr := [(q_h, .inr (6, [.ref q_i, .ref q_o, .ref q_t, .ref q_mt, .ref q_bw, .ref q_sw, .ref q_br, .ref q_sr, .int h_place])), (q_o, .inr (3, [.ref q_oB, .int o_c])), (q_oB, .inl (cB, 10000, .inl o_f)), (q_t, .inr (3, [.ref q_tB, .int a_c_4])), (q_tB, .inl (cB, 10000, .inl t_f)), (q_bw, .inr (1, [.ref q_i, .ref q_t, .ref q_mt])), (q_sw, .inr (5, [.ref q_i, .ref q_t, .ref q_bw])), (q_br, .inr (0, [.ref q_i, .ref q_t, .int br_at, .int br_end, .int br_tb, .long br_len, .int br_fault, .int br_fp])), (q_sr, .inr (4, [.ref q_i, .ref q_t, .ref q_br, .int sr_at, .int sr_most, .int sr_fault, .int sr_fp]))]) (WS' := [(q_h, .inr (6, [.ref q_i, .ref q_o, .ref q_t, .ref q_mt, .ref q_bw, .ref q_sw, .ref q_br, .ref q_sr, .int h_place])), (q_i, .inr (3, [.ref q_iB, .int i_c])), (q_iB, .inl (cB, 10000, .inl i_f)), (q_o, .inr (3, [.ref q_oB, .int o_c])), (q_oB, .inl (cB, 10000, .inl o_f)), (q_t, .inr (3, [.ref q_tB, .int a_c_4])), (q_tB, .inl (cB, 10000, .inl t_f)), (q_mt, .inr (2, [.ref q_i, .ref q_mtb, .ref q_mtl, .int mt_from, .int mt_to, .int mt_len, .int mt_dist])), (q_mtb, .inl (cI, 10000, .inl mt_bef_6)), (q_mtl, .inl (cI, 2048, .inl mt_lat_7)), (q_bw, .inr (1, [.ref q_i, .ref q_t, .ref q_mt])), (q_sw, .inr (5, [.ref q_i, .ref q_t, .ref q_bw])), (q_br, .inr (0, [.ref q_i, .ref q_t, .int br_at, .int br_end, .int br_tb, .long br_len, .int br_fault, .int br_fp])), (q_sr, .inr (4, [.ref q_i, .ref q_t, .ref q_br, .int sr_at, .int sr_most, .int sr_fault, .int sr_fp]))]) (va_runV (As := []) (rest := []) hF (ct_Matches_index (l := l) (D := D) (cB := cB) (cI := cI) (tM := tM) (q_mt := q_mt) (q_i := q_i) (q_iB := q_iB) (q_mtb := q_mtb) (q_mtl := q_mtl) (mt_from := mt_from) (mt_to := mt_to) (mt_len := mt_len) (mt_dist := mt_dist) (i_c := i_c) (i_f := i_f) (mt_bef := mt_bef) (mt_lat := mt_lat) (N := N) (mt_bef' := mt_bef_6) (mt_lat' := mt_lat_7) hm8 _) (cwV 0 hts (tpG_V wd_244 wd_245 wd_246 wd_42 wd_243) rfl rfl rfl ⟨rfl, yd_Matches_index⟩ ⟨Nat.le_of_ble_eq_true rfl, Nat.le_of_ble_eq_true rfl⟩) ⟨tp_blind, va_recv hw.1 hw.2.1 (ci := 2) (q0 := 7) rfl rfl, tp_pre hw [7, 1, 2, 8, 9] rfl rfl⟩ rfl rfl hl.1 rfl (lv_room (Nat.le_of_ble_eq_true rfl)) d_TP_pack_21 ⟨Nat.le_of_ble_eq_true rfl, Nat.le_of_ble_eq_true rfl⟩) hw [7, 1, 2, 8, 9] [0, 3, 4, 5, 6, 10, 11, 12, 13] [0, 10, 11, 1, 2, 3, 4, 9, 12, 13, 5, 6, 7, 8] rfl rfl rfl (by decide) rfl rfl (fun H locs hw => ?_)
    refine lv_aload_n hx hb d_TP_pack_24 rfl (lv_at hl 0 rfl) ?_
    refine tp_get (v := .ref q_bw) (C := R_TP) (T := T_TP) hx hb hts fw_TP hown hw 0 rfl rfl 4 (by decide +kernel) (hts _ wd_247) rfl d_TP_pack_25 ?_
    refine lv_iconst (v := (0 : Int32)) hx hb d_TP_pack_28 (by decide +kernel) ?_
    refine lv_aload_n hx hb d_TP_pack_29 rfl (lv_at hl 0 rfl) ?_
    refine tp_get (v := .ref q_i) (C := R_TP) (T := T_TP) hx hb hts fw_TP hown hw 0 rfl rfl 0 (by decide +kernel) (hts _ wd_233) rfl d_TP_pack_30 ?_
    refine tp_getN (v := .int i_c) (C := R_Row) (T := T_Row) hx hb hts fw_Row hown hw 1 rfl rfl 1 (by decide +kernel) nw_11 rfl d_TP_pack_33 ?_
    refine lv_iload_n hx hb d_TP_pack_36 rfl (lv_at hl 1 rfl) ?_
    obtain ⟨t_c_9, t_f_10, mt_from_11, mt_to_12, mt_len_13, mt_dist_14, hm15, hm⟩ := tp_b6_e hm
    refine tp_callv (wr := [(q_h, .inr (6, [.ref q_i, .ref q_o, .ref q_t, .ref q_mt, .ref q_bw, .ref q_sw, .ref q_br, .ref q_sr, .int h_place])), (q_o, .inr (3, [.ref q_oB, .int o_c])), (q_oB, .inl (cB, 10000, .inl o_f)), (q_sw, .inr (5, [.ref q_i, .ref q_t, .ref q_bw])), (q_br, .inr (0, [.ref q_i, .ref q_t, .int br_at, .int br_end, .int br_tb, .long br_len, .int br_fault, .int br_fp])), (q_sr, .inr (4, [.ref q_i, .ref q_t, .ref q_br, .int sr_at, .int sr_most, .int sr_fault, .int sr_fp]))]) (WS' := [(q_h, .inr (6, [.ref q_i, .ref q_o, .ref q_t, .ref q_mt, .ref q_bw, .ref q_sw, .ref q_br, .ref q_sr, .int h_place])), (q_i, .inr (3, [.ref q_iB, .int i_c])), (q_iB, .inl (cB, 10000, .inl i_f)), (q_o, .inr (3, [.ref q_oB, .int o_c])), (q_oB, .inl (cB, 10000, .inl o_f)), (q_t, .inr (3, [.ref q_tB, .int t_c_9])), (q_tB, .inl (cB, 10000, .inl t_f_10)), (q_mt, .inr (2, [.ref q_i, .ref q_mtb, .ref q_mtl, .int mt_from_11, .int mt_to_12, .int mt_len_13, .int mt_dist_14])), (q_mtb, .inl (cI, 10000, .inl mt_bef_6)), (q_mtl, .inl (cI, 2048, .inl mt_lat_7)), (q_bw, .inr (1, [.ref q_i, .ref q_t, .ref q_mt])), (q_sw, .inr (5, [.ref q_i, .ref q_t, .ref q_bw])), (q_br, .inr (0, [.ref q_i, .ref q_t, .int br_at, .int br_end, .int br_tb, .long br_len, .int br_fault, .int br_fp])), (q_sr, .inr (4, [.ref q_i, .ref q_t, .ref q_br, .int sr_at, .int sr_most, .int sr_fault, .int sr_fp]))]) (va_runV (As := [.int (0 : Int32), .int i_c, .int x1]) (rest := []) hF (ct_BlockWriter_putBlock (l := l) (D := D) (cB := cB) (cI := cI) (tM := tM) (q_bw := q_bw) (q_i := q_i) (q_iB := q_iB) (q_t := q_t) (q_tB := q_tB) (q_mt := q_mt) (q_mtb := q_mtb) (q_mtl := q_mtl) (i_c := i_c) (i_f := i_f) (t_c := a_c_4) (t_f := t_f) (mt_from := mt_from) (mt_to := mt_to) (mt_len := mt_len) (mt_dist := mt_dist) (mt_bef := mt_bef_6) (mt_lat := mt_lat_7) (x1 := (0 : Int32)) (x2 := i_c) (x3 := x1) (N := N) (t_c' := t_c_9) (t_f' := t_f_10) (mt_from' := mt_from_11) (mt_to' := mt_to_12) (mt_len' := mt_len_13) (mt_dist' := mt_dist_14) hm15 _) (cwV 3 hts (tpG_V wd_248 wd_123 wd_124 wd_97 wd_121) rfl rfl rfl ⟨rfl, yd_BlockWriter_putBlock⟩ ⟨Nat.le_of_ble_eq_true rfl, Nat.le_of_ble_eq_true rfl⟩) ⟨tp_blind, va_recv hw.1 hw.2.1 (ci := 1) (q0 := 10) rfl rfl, tp_pre hw [10, 1, 2, 5, 6, 7, 8, 9] rfl rfl⟩ rfl rfl hl.1 rfl (lv_room (Nat.le_of_ble_eq_true rfl)) d_TP_pack_37 ⟨Nat.le_of_ble_eq_true rfl, Nat.le_of_ble_eq_true rfl⟩) hw [10, 1, 2, 5, 6, 7, 8, 9] [0, 3, 4, 11, 12, 13] [0, 7, 8, 1, 2, 9, 10, 11, 12, 13, 6, 3, 4, 5] rfl rfl rfl (by decide) rfl rfl (fun H locs hw => ?_)
    refine lv_aload_n hx hb d_TP_pack_40 rfl (lv_at hl 0 rfl) ?_
    obtain ⟨r16, o_c_17, o_f_18, hm19, hm⟩ := tp_b3_e hm
    refine tp_calli (wr := []) (WS' := [(q_h, .inr (6, [.ref q_i, .ref q_o, .ref q_t, .ref q_mt, .ref q_bw, .ref q_sw, .ref q_br, .ref q_sr, .int h_place])), (q_i, .inr (3, [.ref q_iB, .int i_c])), (q_iB, .inl (cB, 10000, .inl i_f)), (q_o, .inr (3, [.ref q_oB, .int o_c_17])), (q_oB, .inl (cB, 10000, .inl o_f_18)), (q_t, .inr (3, [.ref q_tB, .int t_c_9])), (q_tB, .inl (cB, 10000, .inl t_f_10)), (q_mt, .inr (2, [.ref q_i, .ref q_mtb, .ref q_mtl, .int mt_from_11, .int mt_to_12, .int mt_len_13, .int mt_dist_14])), (q_mtb, .inl (cI, 10000, .inl mt_bef_6)), (q_mtl, .inl (cI, 2048, .inl mt_lat_7)), (q_bw, .inr (1, [.ref q_i, .ref q_t, .ref q_mt])), (q_sw, .inr (5, [.ref q_i, .ref q_t, .ref q_bw])), (q_br, .inr (0, [.ref q_i, .ref q_t, .int br_at, .int br_end, .int br_tb, .long br_len, .int br_fault, .int br_fp])), (q_sr, .inr (4, [.ref q_i, .ref q_t, .ref q_br, .int sr_at, .int sr_most, .int sr_fault, .int sr_fp]))]) (va_runV (As := []) (rest := []) hF (ct_TP_endWriting (l := l) (D := D) (cB := cB) (cI := cI) (tM := tM) (q_h := q_h) (q_i := q_i) (q_iB := q_iB) (q_o := q_o) (q_oB := q_oB) (q_t := q_t) (q_tB := q_tB) (q_mt := q_mt) (q_mtb := q_mtb) (q_mtl := q_mtl) (q_bw := q_bw) (q_sw := q_sw) (q_br := q_br) (q_sr := q_sr) (h_place := h_place) (i_c := i_c) (i_f := i_f) (o_c := o_c) (o_f := o_f) (t_c := t_c_9) (t_f := t_f_10) (mt_from := mt_from_11) (mt_to := mt_to_12) (mt_len := mt_len_13) (mt_dist := mt_dist_14) (mt_bef := mt_bef_6) (mt_lat := mt_lat_7) (br_at := br_at) (br_end := br_end) (br_tb := br_tb) (br_len := br_len) (br_fault := br_fault) (br_fp := br_fp) (sr_at := sr_at) (sr_most := sr_most) (sr_fault := sr_fault) (sr_fp := sr_fp) (r := r16) (o_c' := o_c_17) (o_f' := o_f_18) hm19 _) (cwV 0 hts (tpG_V wd_250 wd_251 wd_252 wd_239 wd_249) rfl rfl rfl ⟨rfl, yd_TP_endWriting⟩ ⟨Nat.le_of_ble_eq_true rfl, Nat.le_of_ble_eq_true rfl⟩) ⟨tp_blind, va_recv hw.1 hw.2.1 (ci := 6) (q0 := 0) rfl rfl, tp_pre hw [0, 1, 2, 3, 4, 5, 6, 7, 8, 9, 10, 11, 12, 13] rfl rfl⟩ rfl rfl hl.1 rfl (lv_room (Nat.le_of_ble_eq_true rfl)) d_TP_pack_41 ⟨Nat.le_of_ble_eq_true rfl, Nat.le_of_ble_eq_true rfl⟩) hw [0, 1, 2, 3, 4, 5, 6, 7, 8, 9, 10, 11, 12, 13] [] [0, 1, 2, 3, 4, 5, 6, 7, 8, 9, 10, 11, 12, 13] rfl rfl rfl (by decide) rfl rfl (fun H locs hw => ?_)
    obtain ⟨rfl, rfl, rfl, rfl, rfl, rfl, rfl, rfl, rfl, rfl, rfl⟩ := tp_inj11 hm
    exact tp_iret hx hb hr hlocks hw d_TP_pack_44
  · replace hm := tp_if hc3 hm
    refine lv_iconst (v := (-1 : Int32)) hx hb d_TP_pack_7 (by decide +kernel) ?_
    obtain ⟨rfl, rfl, rfl, rfl, rfl, rfl, rfl, rfl, rfl, rfl, rfl⟩ := tp_inj11 hm
    exact tp_iret hx hb hr hlocks hw d_TP_pack_8
end
abbrev rm_TP_unpack : Room := { frames := 5, cells := 0, slots := 0, locals := 115 }
abbrev ws_TP_unpack : List Cond := .code y_TP_unpack c_TP_unpack 2 (some .int) :: tpG
noncomputable def m_TP_unpack (N : Nat) (x1 : Int32) (h_place : Int32) (i_c : Int32) (i_f : Nat → Int32) (o_c : Int32) (o_f : Nat → Int32) (t_c : Int32) (t_f : Nat → Int32) (br_at : Int32) (br_end : Int32) (br_tb : Int32) (br_len : Int64) (br_fault : Int32) (br_fp : Int32) : Option (Int32 × Int32 × Int32 × (Nat → Int32) × Int32 × (Nat → Int32) × Int32 × Int32 × Int32 × Int64 × Int32 × Int32) :=
  tp_b1 (m_TP_isNoMost x1) fun r1 =>
  if r1 = 0 then
    tp_b1 (m_Row_shorten (0 : Int32) t_c) fun a_c_4 =>
    tp_b8 (m_BlockReader_readBlock N (0 : Int32) i_c x1 br_at br_end br_tb br_len br_fault br_fp i_c i_f a_c_4 t_f) fun br_at_6 br_end_7 br_tb_8 br_len_9 br_fault_10 br_fp_11 t_c_12 t_f_13 =>
    tp_b4 (m_TP_endReading br_fault_10 br_fp_11 h_place i_c o_c o_f t_c_12 t_f_13) fun r15 h_place_16 o_c_17 o_f_18 =>
    some (r15, h_place_16, o_c_17, o_f_18, t_c_12, t_f_13, br_at_6, br_end_7, br_tb_8, br_len_9, br_fault_10, br_fp_11)
  else
    some ((-20 : Int32), h_place, o_c, o_f, t_c, t_f, br_at, br_end, br_tb, br_len, br_fault, br_fp)
section
variable {p : Program} {l : Launch} {e : Env} {s : State} {m : MethodId} {args : Array Value} {below : List Frame} {meth : Method} {c : Code} {A : Nat → Prop} {D : va_G} {cB cI : ClassId} {tM : Nat}
set_option maxHeartbeats 4000000 in
set_option maxRecDepth 100000 in
theorem ct_TP_unpack {q_h q_i q_iB q_o q_oB q_t q_tB q_mt q_mtb q_mtl q_bw q_sw q_br q_sr : Nat} {h_place : Int32} {i_c : Int32} {i_f : Nat → Int32} {o_c : Int32} {o_f : Nat → Int32} {t_c : Int32} {t_f : Nat → Int32} {mt_from : Int32} {mt_to : Int32} {mt_len : Int32} {mt_dist : Int32} {mt_bef : Nat → Int32} {mt_lat : Nat → Int32} {br_at : Int32} {br_end : Int32} {br_tb : Int32} {br_len : Int64} {br_fault : Int32} {br_fp : Int32} {sr_at : Int32} {sr_most : Int32} {sr_fault : Int32} {sr_fp : Int32} {N : Nat} {x1 : Int32} {r : Int32} {h_place' : Int32} {o_c' : Int32} {o_f' : Nat → Int32} {t_c' : Int32} {t_f' : Nat → Int32} {br_at' : Int32} {br_end' : Int32} {br_tb' : Int32} {br_len' : Int64} {br_fault' : Int32} {br_fp' : Int32} (hm : m_TP_unpack N x1 h_place i_c i_f o_c o_f t_c t_f br_at br_end br_tb br_len br_fault br_fp = some (r, h_place', o_c', o_f', t_c', t_f', br_at', br_end', br_tb', br_len', br_fault', br_fp')) (sz : Nat) : tp_Ci l y_TP_unpack ws_TP_unpack rm_TP_unpack D (tp_ty cB cI) tM [.ref q_h, .int x1] [(q_h, .inr (6, [.ref q_i, .ref q_o, .ref q_t, .ref q_mt, .ref q_bw, .ref q_sw, .ref q_br, .ref q_sr, .int h_place])), (q_i, .inr (3, [.ref q_iB, .int i_c])), (q_iB, .inl (cB, 10000, .inl i_f)), (q_o, .inr (3, [.ref q_oB, .int o_c])), (q_oB, .inl (cB, 10000, .inl o_f)), (q_t, .inr (3, [.ref q_tB, .int t_c])), (q_tB, .inl (cB, 10000, .inl t_f)), (q_mt, .inr (2, [.ref q_i, .ref q_mtb, .ref q_mtl, .int mt_from, .int mt_to, .int mt_len, .int mt_dist])), (q_mtb, .inl (cI, 10000, .inl mt_bef)), (q_mtl, .inl (cI, 2048, .inl mt_lat)), (q_bw, .inr (1, [.ref q_i, .ref q_t, .ref q_mt])), (q_sw, .inr (5, [.ref q_i, .ref q_t, .ref q_bw])), (q_br, .inr (0, [.ref q_i, .ref q_t, .int br_at, .int br_end, .int br_tb, .long br_len, .int br_fault, .int br_fp])), (q_sr, .inr (4, [.ref q_i, .ref q_t, .ref q_br, .int sr_at, .int sr_most, .int sr_fault, .int sr_fp]))] sz r [(q_h, .inr (6, [.ref q_i, .ref q_o, .ref q_t, .ref q_mt, .ref q_bw, .ref q_sw, .ref q_br, .ref q_sr, .int h_place'])), (q_i, .inr (3, [.ref q_iB, .int i_c])), (q_iB, .inl (cB, 10000, .inl i_f)), (q_o, .inr (3, [.ref q_oB, .int o_c'])), (q_oB, .inl (cB, 10000, .inl o_f')), (q_t, .inr (3, [.ref q_tB, .int t_c'])), (q_tB, .inl (cB, 10000, .inl t_f')), (q_mt, .inr (2, [.ref q_i, .ref q_mtb, .ref q_mtl, .int mt_from, .int mt_to, .int mt_len, .int mt_dist])), (q_mtb, .inl (cI, 10000, .inl mt_bef)), (q_mtl, .inl (cI, 2048, .inl mt_lat)), (q_bw, .inr (1, [.ref q_i, .ref q_t, .ref q_mt])), (q_sw, .inr (5, [.ref q_i, .ref q_t, .ref q_bw])), (q_br, .inr (0, [.ref q_i, .ref q_t, .int br_at', .int br_end', .int br_tb', .long br_len', .int br_fault', .int br_fp'])), (q_sr, .inr (4, [.ref q_i, .ref q_t, .ref q_br, .int sr_at, .int sr_most, .int sr_fault, .int sr_fp]))] := by
  refine Met.ofW (cc := c_TP_unpack) (maxL := 2) (ret := (some .int)) (by decide) rfl ?_
  intro p e s m args below meth c s₁ B hml hv
  obtain ⟨rfl, hv⟩ := hv
  have hw := tp_entry hv
  generalize va_A [(q_h, .inr (6, [.ref q_i, .ref q_o, .ref q_t, .ref q_mt, .ref q_bw, .ref q_sw, .ref q_br, .ref q_sr, .int h_place])), (q_i, .inr (3, [.ref q_iB, .int i_c])), (q_iB, .inl (cB, 10000, .inl i_f)), (q_o, .inr (3, [.ref q_oB, .int o_c])), (q_oB, .inl (cB, 10000, .inl o_f)), (q_t, .inr (3, [.ref q_tB, .int t_c])), (q_tB, .inl (cB, 10000, .inl t_f)), (q_mt, .inr (2, [.ref q_i, .ref q_mtb, .ref q_mtl, .int mt_from, .int mt_to, .int mt_len, .int mt_dist])), (q_mtb, .inl (cI, 10000, .inl mt_bef)), (q_mtl, .inl (cI, 2048, .inl mt_lat)), (q_bw, .inr (1, [.ref q_i, .ref q_t, .ref q_mt])), (q_sw, .inr (5, [.ref q_i, .ref q_t, .ref q_bw])), (q_br, .inr (0, [.ref q_i, .ref q_t, .int br_at, .int br_end, .int br_tb, .long br_len, .int br_fault, .int br_fp])), (q_sr, .inr (4, [.ref q_i, .ref q_t, .ref q_br, .int sr_at, .int sr_most, .int sr_fault, .int sr_fp]))] sz = A at hw ⊢
  have hx := B.exec
  have hb := B.bytes
  have hr := B.returns
  have hts0 := atoms_spec (ws := ws_TP_unpack) B.pre
  have hts := fun w h => hts0 w (List.mem_cons_of_mem _ h)
  have hown : s.vm.findClass R_TP = some m.cls := findClass_of_methodNamed B.named
  have hlocks := B.notSynchronized
  have hF : CallFix p m c c_TP_unpack 2 s _ tpG R_TP := ⟨hx, hb, hml, hown, hts⟩
  have hF2 : tp_F p m c c_TP_unpack 2 s _ tpG R_TP meth (some .int) := ⟨hF, hr, hlocks⟩
  have hl := lv_entry ([.ref q_h, .int x1]) (n := 2) (Nat.le_of_ble_eq_true rfl)
  rw [lg_entry_eq]
  generalize (lg_sl ([.ref q_h, .int x1]) ++ List.replicate (2 - (lg_sl ([.ref q_h, .int x1])).length) Slot.unset).toArray = ls at hl ⊢
  replace hl : lv_has ls 2 [(0, .ref q_h), (1, .int x1)] := hl
  unfold m_TP_unpack at hm
  refine lv_iload_n hx hb d_TP_unpack_0 rfl (lv_at hl 1 rfl) ?_
  obtain ⟨r1, hm2, hm⟩ := tp_b1_e hm
  refine tp_calli (wr := [(q_h, .inr (6, [.ref q_i, .ref q_o, .ref q_t, .ref q_mt, .ref q_bw, .ref q_sw, .ref q_br, .ref q_sr, .int h_place])), (q_i, .inr (3, [.ref q_iB, .int i_c])), (q_iB, .inl (cB, 10000, .inl i_f)), (q_o, .inr (3, [.ref q_oB, .int o_c])), (q_oB, .inl (cB, 10000, .inl o_f)), (q_t, .inr (3, [.ref q_tB, .int t_c])), (q_tB, .inl (cB, 10000, .inl t_f)), (q_mt, .inr (2, [.ref q_i, .ref q_mtb, .ref q_mtl, .int mt_from, .int mt_to, .int mt_len, .int mt_dist])), (q_mtb, .inl (cI, 10000, .inl mt_bef)), (q_mtl, .inl (cI, 2048, .inl mt_lat)), (q_bw, .inr (1, [.ref q_i, .ref q_t, .ref q_mt])), (q_sw, .inr (5, [.ref q_i, .ref q_t, .ref q_bw])), (q_br, .inr (0, [.ref q_i, .ref q_t, .int br_at, .int br_end, .int br_tb, .long br_len, .int br_fault, .int br_fp])), (q_sr, .inr (4, [.ref q_i, .ref q_t, .ref q_br, .int sr_at, .int sr_most, .int sr_fault, .int sr_fp]))]) (WS' := [(q_h, .inr (6, [.ref q_i, .ref q_o, .ref q_t, .ref q_mt, .ref q_bw, .ref q_sw, .ref q_br, .ref q_sr, .int h_place])), (q_i, .inr (3, [.ref q_iB, .int i_c])), (q_iB, .inl (cB, 10000, .inl i_f)), (q_o, .inr (3, [.ref q_oB, .int o_c])), (q_oB, .inl (cB, 10000, .inl o_f)), (q_t, .inr (3, [.ref q_tB, .int t_c])), (q_tB, .inl (cB, 10000, .inl t_f)), (q_mt, .inr (2, [.ref q_i, .ref q_mtb, .ref q_mtl, .int mt_from, .int mt_to, .int mt_len, .int mt_dist])), (q_mtb, .inl (cI, 10000, .inl mt_bef)), (q_mtl, .inl (cI, 2048, .inl mt_lat)), (q_bw, .inr (1, [.ref q_i, .ref q_t, .ref q_mt])), (q_sw, .inr (5, [.ref q_i, .ref q_t, .ref q_bw])), (q_br, .inr (0, [.ref q_i, .ref q_t, .int br_at, .int br_end, .int br_tb, .long br_len, .int br_fault, .int br_fp])), (q_sr, .inr (4, [.ref q_i, .ref q_t, .ref q_br, .int sr_at, .int sr_most, .int sr_fault, .int sr_fp]))]) (va_runS (As := [.int x1]) (rest := []) hF (ct_TP_isNoMost (l := l) (D := D) (cB := cB) (cI := cI) (tM := tM) (x0 := x1) (r := r1) hm2 _) (va_cwS 1 hts (tpG_S wd_254 wd_255 wd_239 wd_253) rfl rfl rfl yd_TP_isNoMost ⟨Nat.le_of_ble_eq_true rfl, Nat.le_of_ble_eq_true rfl⟩) ⟨tp_blind, tp_pre hw [] rfl rfl⟩ rfl rfl hl.1 rfl (lv_room (Nat.le_of_ble_eq_true rfl)) d_TP_unpack_1 ⟨Nat.le_of_ble_eq_true rfl, Nat.le_of_ble_eq_true rfl⟩) hw [] [0, 1, 2, 3, 4, 5, 6, 7, 8, 9, 10, 11, 12, 13] [0, 1, 2, 3, 4, 5, 6, 7, 8, 9, 10, 11, 12, 13] rfl rfl rfl (by decide) rfl rfl (fun H locs hw => ?_)
  refine lv_if_eq (tgt := 10) hx hb d_TP_unpack_4 (by decide +kernel) (fun hc3 => ?_) (fun hc3 => ?_)
  · replace hm := tp_it hc3 hm
    refine lv_aload_n hx hb d_TP_unpack_10 rfl (lv_at hl 0 rfl) ?_
    refine tp_get (v := .ref q_t) (C := R_TP) (T := T_TP) hx hb hts fw_TP hown hw 0 rfl rfl 2 (by decide +kernel) (hts _ wd_226) rfl d_TP_unpack_11 ?_
    refine lv_iconst (v := (0 : Int32)) hx hb d_TP_unpack_14 (by decide +kernel) ?_
    obtain ⟨a_c_4, hm5, hm⟩ := tp_b1_e hm
    refine tp_callv (wr := [(q_h, .inr (6, [.ref q_i, .ref q_o, .ref q_t, .ref q_mt, .ref q_bw, .ref q_sw, .ref q_br, .ref q_sr, .int h_place])), (q_i, .inr (3, [.ref q_iB, .int i_c])), (q_iB, .inl (cB, 10000, .inl i_f)), (q_o, .inr (3, [.ref q_oB, .int o_c])), (q_oB, .inl (cB, 10000, .inl o_f)), (q_mt, .inr (2, [.ref q_i, .ref q_mtb, .ref q_mtl, .int mt_from, .int mt_to, .int mt_len, .int mt_dist])), (q_mtb, .inl (cI, 10000, .inl mt_bef)), (q_mtl, .inl (cI, 2048, .inl mt_lat)), (q_bw, .inr (1, [.ref q_i, .ref q_t, .ref q_mt])), (q_sw, .inr (5, [.ref q_i, .ref q_t, .ref q_bw])), (q_br, .inr (0, [.ref q_i, .ref q_t, .int br_at, .int br_end, .int br_tb, .long br_len, .int br_fault, .int br_fp])), (q_sr, .inr (4, [.ref q_i, .ref q_t, .ref q_br, .int sr_at, .int sr_most, .int sr_fault, .int sr_fp]))]) (WS' := [(q_h, .inr (6, [.ref q_i, .ref q_o, .ref q_t, .ref q_mt, .ref q_bw, .ref q_sw, .ref q_br, .ref q_sr, .int h_place])), (q_i, .inr (3, [.ref q_iB, .int i_c])), (q_iB, .inl (cB, 10000, .inl i_f)), (q_o, .inr (3, [.ref q_oB, .int o_c])), (q_oB, .inl (cB, 10000, .inl o_f)), (q_t, .inr (3, [.ref q_tB, .int a_c_4])), (q_tB, .inl (cB, 10000, .inl t_f)), (q_mt, .inr (2, [.ref q_i, .ref q_mtb, .ref q_mtl, .int mt_from, .int mt_to, .int mt_len, .int mt_dist])), (q_mtb, .inl (cI, 10000, .inl mt_bef)), (q_mtl, .inl (cI, 2048, .inl mt_lat)), (q_bw, .inr (1, [.ref q_i, .ref q_t, .ref q_mt])), (q_sw, .inr (5, [.ref q_i, .ref q_t, .ref q_bw])), (q_br, .inr (0, [.ref q_i, .ref q_t, .int br_at, .int br_end, .int br_tb, .long br_len, .int br_fault, .int br_fp])), (q_sr, .inr (4, [.ref q_i, .ref q_t, .ref q_br, .int sr_at, .int sr_most, .int sr_fault, .int sr_fp]))]) (va_runV (As := [.int (0 : Int32)]) (rest := []) hF (ct_Row_shorten (l := l) (D := D) (cB := cB) (cI := cI) (tM := tM) (q_a := q_t) (q_aB := q_tB) (a_c := t_c) (a_f := t_f) (x1 := (0 : Int32)) (a_c' := a_c_4) hm5 _) (cwV 1 hts (tpG_V wd_237 wd_127 wd_128 wd_3 wd_125) rfl rfl rfl ⟨rfl, yd_Row_shorten⟩ ⟨Nat.le_of_ble_eq_true rfl, Nat.le_of_ble_eq_true rfl⟩) ⟨tp_blind, va_recv hw.1 hw.2.1 (ci := 3) (q0 := 5) rfl rfl, tp_pre hw [5, 6] rfl rfl⟩ rfl rfl hl.1 rfl (lv_room (Nat.le_of_ble_eq_true rfl)) d_TP_unpack_15 ⟨Nat.le_of_ble_eq_true rfl, Nat.le_of_ble_eq_true rfl⟩) hw [5, 6] [0, 1, 2, 3, 4, 7, 8, 9, 10, 11, 12, 13] [0, 1, 2, 3, 4, 12, 13, 5, 6, 7, 8, 9, 10, 11] rfl rfl rfl (by decide) rfl rfl (fun H locs hw => ?_)
    refine lv_aload_n hx hb d_TP_unpack_18 rfl (lv_at hl 0 rfl) ?_
    refine tp_get (v := .ref q_br) (C := R_TP) (T := T_TP) hx hb hts fw_TP hown hw 0 rfl rfl 6 (by decide +kernel) (hts _ wd_256) rfl d_TP_unpack_19 ?_
    refine lv_iconst (v := (0 : Int32)) hx hb d_TP_unpack_22 (by decide +kernel) ?_
    refine lv_aload_n hx hb d_TP_unpack_23 rfl (lv_at hl 0 rfl) ?_
    refine tp_get (v := .ref q_i) (C := R_TP) (T := T_TP) hx hb hts fw_TP hown hw 0 rfl rfl 0 (by decide +kernel) (hts _ wd_233) rfl d_TP_unpack_24 ?_
    refine tp_getN (v := .int i_c) (C := R_Row) (T := T_Row) hx hb hts fw_Row hown hw 1 rfl rfl 1 (by decide +kernel) nw_11 rfl d_TP_unpack_27 ?_
    refine lv_iload_n hx hb d_TP_unpack_30 rfl (lv_at hl 1 rfl) ?_
    obtain ⟨br_at_6, br_end_7, br_tb_8, br_len_9, br_fault_10, br_fp_11, t_c_12, t_f_13, hm14, hm⟩ := tp_b8_e hm
    refine tp_callv (wr := [(q_h, .inr (6, [.ref q_i, .ref q_o, .ref q_t, .ref q_mt, .ref q_bw, .ref q_sw, .ref q_br, .ref q_sr, .int h_place])), (q_o, .inr (3, [.ref q_oB, .int o_c])), (q_oB, .inl (cB, 10000, .inl o_f)), (q_mt, .inr (2, [.ref q_i, .ref q_mtb, .ref q_mtl, .int mt_from, .int mt_to, .int mt_len, .int mt_dist])), (q_mtb, .inl (cI, 10000, .inl mt_bef)), (q_mtl, .inl (cI, 2048, .inl mt_lat)), (q_bw, .inr (1, [.ref q_i, .ref q_t, .ref q_mt])), (q_sw, .inr (5, [.ref q_i, .ref q_t, .ref q_bw])), (q_sr, .inr (4, [.ref q_i, .ref q_t, .ref q_br, .int sr_at, .int sr_most, .int sr_fault, .int sr_fp]))]) (WS' := [(q_h, .inr (6, [.ref q_i, .ref q_o, .ref q_t, .ref q_mt, .ref q_bw, .ref q_sw, .ref q_br, .ref q_sr, .int h_place])), (q_i, .inr (3, [.ref q_iB, .int i_c])), (q_iB, .inl (cB, 10000, .inl i_f)), (q_o, .inr (3, [.ref q_oB, .int o_c])), (q_oB, .inl (cB, 10000, .inl o_f)), (q_t, .inr (3, [.ref q_tB, .int t_c_12])), (q_tB, .inl (cB, 10000, .inl t_f_13)), (q_mt, .inr (2, [.ref q_i, .ref q_mtb, .ref q_mtl, .int mt_from, .int mt_to, .int mt_len, .int mt_dist])), (q_mtb, .inl (cI, 10000, .inl mt_bef)), (q_mtl, .inl (cI, 2048, .inl mt_lat)), (q_bw, .inr (1, [.ref q_i, .ref q_t, .ref q_mt])), (q_sw, .inr (5, [.ref q_i, .ref q_t, .ref q_bw])), (q_br, .inr (0, [.ref q_i, .ref q_t, .int br_at_6, .int br_end_7, .int br_tb_8, .long br_len_9, .int br_fault_10, .int br_fp_11])), (q_sr, .inr (4, [.ref q_i, .ref q_t, .ref q_br, .int sr_at, .int sr_most, .int sr_fault, .int sr_fp]))]) (va_runV (As := [.int (0 : Int32), .int i_c, .int x1]) (rest := []) hF (ct_BlockReader_readBlock (l := l) (D := D) (cB := cB) (cI := cI) (tM := tM) (q_br := q_br) (q_i := q_i) (q_iB := q_iB) (q_t := q_t) (q_tB := q_tB) (br_at := br_at) (br_end := br_end) (br_tb := br_tb) (br_len := br_len) (br_fault := br_fault) (br_fp := br_fp) (i_c := i_c) (i_f := i_f) (t_c := a_c_4) (t_f := t_f) (x1 := (0 : Int32)) (x2 := i_c) (x3 := x1) (N := N) (br_at' := br_at_6) (br_end' := br_end_7) (br_tb' := br_tb_8) (br_len' := br_len_9) (br_fault' := br_fault_10) (br_fp' := br_fp_11) (t_c' := t_c_12) (t_f' := t_f_13) hm14 _) (cwV 3 hts (tpG_V wd_257 wd_216 wd_217 wd_144 wd_214) rfl rfl rfl ⟨rfl, yd_BlockReader_readBlock⟩ ⟨Nat.le_of_ble_eq_true rfl, Nat.le_of_ble_eq_true rfl⟩) ⟨tp_blind, va_recv hw.1 hw.2.1 (ci := 0) (q0 := 12) rfl rfl, tp_pre hw [12, 1, 2, 5, 6] rfl rfl⟩ rfl rfl hl.1 rfl (lv_room (Nat.le_of_ble_eq_true rfl)) d_TP_unpack_31 ⟨Nat.le_of_ble_eq_true rfl, Nat.le_of_ble_eq_true rfl⟩) hw [12, 1, 2, 5, 6] [0, 3, 4, 7, 8, 9, 10, 11, 13] [0, 10, 11, 1, 2, 12, 13, 3, 4, 5, 6, 7, 9, 8] rfl rfl rfl (by decide) rfl rfl (fun H locs hw => ?_)
    refine lv_aload_n hx hb d_TP_unpack_34 rfl (lv_at hl 0 rfl) ?_
    refine lv_aload_n hx hb d_TP_unpack_35 rfl (lv_at hl 0 rfl) ?_
    refine tp_get (v := .ref q_br) (C := R_TP) (T := T_TP) hx hb hts fw_TP hown hw 0 rfl rfl 6 (by decide +kernel) (hts _ wd_256) rfl d_TP_unpack_36 ?_
    refine tp_getN (v := .int br_fault_10) (C := R_BlockReader) (T := T_BlockReader) hx hb hts fw_BlockReader hown hw 12 rfl rfl 6 (by decide +kernel) nw_12 rfl d_TP_unpack_39 ?_
    refine lv_aload_n hx hb d_TP_unpack_42 rfl (lv_at hl 0 rfl) ?_
    refine tp_get (v := .ref q_br) (C := R_TP) (T := T_TP) hx hb hts fw_TP hown hw 0 rfl rfl 6 (by decide +kernel) (hts _ wd_256) rfl d_TP_unpack_43 ?_
    refine tp_getN (v := .int br_fp_11) (C := R_BlockReader) (T := T_BlockReader) hx hb hts fw_BlockReader hown hw 12 rfl rfl 7 (by decide +kernel) nw_13 rfl d_TP_unpack_46 ?_
    obtain ⟨r15, h_place_16, o_c_17, o_f_18, hm19, hm⟩ := tp_b4_e hm
    refine tp_calli (wr := []) (WS' := [(q_h, .inr (6, [.ref q_i, .ref q_o, .ref q_t, .ref q_mt, .ref q_bw, .ref q_sw, .ref q_br, .ref q_sr, .int h_place_16])), (q_i, .inr (3, [.ref q_iB, .int i_c])), (q_iB, .inl (cB, 10000, .inl i_f)), (q_o, .inr (3, [.ref q_oB, .int o_c_17])), (q_oB, .inl (cB, 10000, .inl o_f_18)), (q_t, .inr (3, [.ref q_tB, .int t_c_12])), (q_tB, .inl (cB, 10000, .inl t_f_13)), (q_mt, .inr (2, [.ref q_i, .ref q_mtb, .ref q_mtl, .int mt_from, .int mt_to, .int mt_len, .int mt_dist])), (q_mtb, .inl (cI, 10000, .inl mt_bef)), (q_mtl, .inl (cI, 2048, .inl mt_lat)), (q_bw, .inr (1, [.ref q_i, .ref q_t, .ref q_mt])), (q_sw, .inr (5, [.ref q_i, .ref q_t, .ref q_bw])), (q_br, .inr (0, [.ref q_i, .ref q_t, .int br_at_6, .int br_end_7, .int br_tb_8, .long br_len_9, .int br_fault_10, .int br_fp_11])), (q_sr, .inr (4, [.ref q_i, .ref q_t, .ref q_br, .int sr_at, .int sr_most, .int sr_fault, .int sr_fp]))]) (va_runV (As := [.int br_fault_10, .int br_fp_11]) (rest := []) hF (ct_TP_endReading (l := l) (D := D) (cB := cB) (cI := cI) (tM := tM) (q_h := q_h) (q_i := q_i) (q_iB := q_iB) (q_o := q_o) (q_oB := q_oB) (q_t := q_t) (q_tB := q_tB) (q_mt := q_mt) (q_mtb := q_mtb) (q_mtl := q_mtl) (q_bw := q_bw) (q_sw := q_sw) (q_br := q_br) (q_sr := q_sr) (h_place := h_place) (i_c := i_c) (i_f := i_f) (o_c := o_c) (o_f := o_f) (t_c := t_c_12) (t_f := t_f_13) (mt_from := mt_from) (mt_to := mt_to) (mt_len := mt_len) (mt_dist := mt_dist) (mt_bef := mt_bef) (mt_lat := mt_lat) (br_at := br_at_6) (br_end := br_end_7) (br_tb := br_tb_8) (br_len := br_len_9) (br_fault := br_fault_10) (br_fp := br_fp_11) (sr_at := sr_at) (sr_most := sr_most) (sr_fault := sr_fault) (sr_fp := sr_fp) (x1 := br_fault_10) (x2 := br_fp_11) (r := r15) (h_place' := h_place_16) (o_c' := o_c_17) (o_f' := o_f_18) hm19 _) (cwV 2 hts (tpG_V wd_259 wd_260 wd_261 wd_239 wd_258) rfl rfl rfl ⟨rfl, yd_TP_endReading⟩ ⟨Nat.le_of_ble_eq_true rfl, Nat.le_of_ble_eq_true rfl⟩) ⟨tp_blind, va_recv hw.1 hw.2.1 (ci := 6) (q0 := 0) rfl rfl, tp_pre hw [0, 1, 2, 3, 4, 5, 6, 7, 8, 9, 10, 11, 12, 13] rfl rfl⟩ rfl rfl hl.1 rfl (lv_room (Nat.le_of_ble_eq_true rfl)) d_TP_unpack_49 ⟨Nat.le_of_ble_eq_true rfl, Nat.le_of_ble_eq_true rfl⟩) hw [0, 1, 2, 3, 4, 5, 6, 7, 8, 9, 10, 11, 12, 13] [] [0, 1, 2, 3, 4, 5, 6, 7, 8, 9, 10, 11, 12, 13] rfl rfl rfl (by decide) rfl rfl (fun H locs hw => ?_)
    obtain ⟨rfl, rfl, rfl, rfl, rfl, rfl, rfl, rfl, rfl, rfl, rfl, rfl⟩ := tp_inj12 hm
    exact tp_iret hx hb hr hlocks hw d_TP_unpack_52
  · replace hm := tp_if hc3 hm
    refine lv_bipush (v := (-20 : Int32)) hx hb d_TP_unpack_7 (by decide +kernel) ?_
    obtain ⟨rfl, rfl, rfl, rfl, rfl, rfl, rfl, rfl, rfl, rfl, rfl, rfl⟩ := tp_inj12 hm
    exact tp_iret hx hb hr hlocks hw d_TP_unpack_9
end
abbrev rm_TP_chunks : Room := { frames := 6, cells := 0, slots := 0, locals := 143 }
abbrev ws_TP_chunks : List Cond := .code y_TP_chunks c_TP_chunks 5 (some .int) :: tpG
noncomputable def m_TP_chunks_57 (N : Nat) (i_c : Int32) (i_f : Nat → Int32) (rec57 : Int32 → Int32 → Int32 → Int32 → Int32 → (Nat → Int32) → Int32 → (Nat → Int32) → Int32 → Int32 → Int32 → Int32 → (Nat → Int32) → (Nat → Int32) → Option (Int32 × Int32 × (Nat → Int32) × Int32 × (Nat → Int32) × Int32 × Int32 × Int32 × Int32 × (Nat → Int32) × (Nat → Int32))) (x1 : Int32) (x2 : Int32) (x3 : Int32) (x4 : Int32) (o_c : Int32) (o_f : Nat → Int32) (t_c : Int32) (t_f : Nat → Int32) (mt_from : Int32) (mt_to : Int32) (mt_len : Int32) (mt_dist : Int32) (mt_bef : Nat → Int32) (mt_lat : Nat → Int32) : Option (Int32 × Int32 × (Nat → Int32) × Int32 × (Nat → Int32) × Int32 × Int32 × Int32 × Int32 × (Nat → Int32) × (Nat → Int32)) :=
  if i_c ≤ x4 then
    tp_b3 (m_TP_endWriting o_c o_f t_c t_f) fun r17 o_c_18 o_f_19 =>
    some (r17, o_c_18, o_f_19, t_c, t_f, mt_from, mt_to, mt_len, mt_dist, mt_bef, mt_lat)
  else
    tp_b1 (m_Row_fits t_c) fun r21 =>
    if r21 = 0 then
      tp_b3 (m_TP_endWriting o_c o_f t_c t_f) fun r24 o_c_25 o_f_26 =>
      some (r24, o_c_25, o_f_26, t_c, t_f, mt_from, mt_to, mt_len, mt_dist, mt_bef, mt_lat)
    else
      tp_b6 (m_StreamWriter_putData N x4 (if i_c < (x4 + x1) then i_c else (x4 + x1)) x2 i_c i_f t_c t_f mt_from mt_to mt_len mt_dist mt_bef) fun t_c_28 t_f_29 mt_from_30 mt_to_31 mt_len_32 mt_dist_33 =>
      if x3 ≤ 0 then
        rec57 x1 x2 x3 (x4 + x1) o_c o_f t_c_28 t_f_29 mt_from_30 mt_to_31 mt_len_32 mt_dist_33 mt_bef mt_lat
      else
        tp_b2 (m_StreamWriter_putSpare N x3 t_c_28 t_f_29) fun t_c_36 t_f_37 =>
        rec57 x1 x2 x3 (x4 + x1) o_c o_f t_c_36 t_f_37 mt_from_30 mt_to_31 mt_len_32 mt_dist_33 mt_bef mt_lat
noncomputable def m_TP_chunks (N : Nat) (x1 : Int32) (x2 : Int32) (x3 : Int32) (i_c : Int32) (i_f : Nat → Int32) (o_c : Int32) (o_f : Nat → Int32) (t_c : Int32) (t_f : Nat → Int32) (mt_from : Int32) (mt_to : Int32) (mt_len : Int32) (mt_dist : Int32) (mt_bef : Nat → Int32) (mt_lat : Nat → Int32) : Option (Int32 × Int32 × (Nat → Int32) × Int32 × (Nat → Int32) × Int32 × Int32 × Int32 × Int32 × (Nat → Int32) × (Nat → Int32)) :=
  if x1 < (1 : Int32) then
    some ((-1 : Int32), o_c, o_f, t_c, t_f, mt_from, mt_to, mt_len, mt_dist, mt_bef, mt_lat)
  else
    if (10000 : Int32) < x1 then
      some ((-1 : Int32), o_c, o_f, t_c, t_f, mt_from, mt_to, mt_len, mt_dist, mt_bef, mt_lat)
    else
      tp_b1 (m_TP_isNoWay x2) fun r3 =>
      if r3 = 0 then
        if x3 < 0 then
          some ((-1 : Int32), o_c, o_f, t_c, t_f, mt_from, mt_to, mt_len, mt_dist, mt_bef, mt_lat)
        else
          if x3 ≤ (255 : Int32) then
            tp_b1 (m_Row_shorten (0 : Int32) t_c) fun a_c_8 =>
            tp_b2 (m_Matches_index N i_c i_f mt_bef mt_lat) fun mt_bef_10 mt_lat_11 =>
            tp_b2 (m_StreamWriter_putMark N a_c_8 t_f) fun t_c_13 t_f_14 =>
            tp_it14 (m_TP_chunks_57 N i_c i_f ) N x1 x2 x3 (0 : Int32) o_c o_f t_c_13 t_f_14 mt_from mt_to mt_len mt_dist mt_bef_10 mt_lat_11
          else
            some ((-1 : Int32), o_c, o_f, t_c, t_f, mt_from, mt_to, mt_len, mt_dist, mt_bef, mt_lat)
      else
        some ((-1 : Int32), o_c, o_f, t_c, t_f, mt_from, mt_to, mt_len, mt_dist, mt_bef, mt_lat)
section
variable {p : Program} {l : Launch} {e : Env} {s : State} {m : MethodId} {args : Array Value} {below : List Frame} {meth : Method} {c : Code} {A : Nat → Prop} {D : va_G} {cB cI : ClassId} {tM : Nat}
set_option maxHeartbeats 4000000 in
set_option maxRecDepth 100000 in
theorem w_TP_chunks_57 {q_h q_i q_iB q_o q_oB q_t q_tB q_mt q_mtb q_mtl q_bw q_sw q_br q_sr : Nat} {h_place : Int32} {i_c : Int32} {i_f : Nat → Int32} {br_at : Int32} {br_end : Int32} {br_tb : Int32} {br_len : Int64} {br_fault : Int32} {br_fp : Int32} {sr_at : Int32} {sr_most : Int32} {sr_fault : Int32} {sr_fp : Int32} {N : Nat} {r : Int32} {o_c' : Int32} {o_f' : Nat → Int32} {t_c' : Int32} {t_f' : Nat → Int32} {mt_from' : Int32} {mt_to' : Int32} {mt_len' : Int32} {mt_dist' : Int32} {mt_bef' : Nat → Int32} {mt_lat' : Nat → Int32} (hF2 : tp_F p m c c_TP_chunks 5 s args tpG R_TP meth (some .int)) : ∀ (n : Nat), ∀ (x1 : Int32) (x2 : Int32) (x3 : Int32) (x4 : Int32) (o_c : Int32) (o_f : Nat → Int32) (t_c : Int32) (t_f : Nat → Int32) (mt_from : Int32) (mt_to : Int32) (mt_len : Int32) (mt_dist : Int32) (mt_bef : Nat → Int32) (mt_lat : Nat → Int32) (H : Heap) (locs : List Loc) (ls : Array Slot), tp_it14 (m_TP_chunks_57 N i_c i_f ) n x1 x2 x3 x4 o_c o_f t_c t_f mt_from mt_to mt_len mt_dist mt_bef mt_lat = some (r, o_c', o_f', t_c', t_f', mt_from', mt_to', mt_len', mt_dist', mt_bef', mt_lat') → tp_Wd D (tp_ty cB cI) tM A s H locs [(q_h, .inr (6, [.ref q_i, .ref q_o, .ref q_t, .ref q_mt, .ref q_bw, .ref q_sw, .ref q_br, .ref q_sr, .int h_place])), (q_i, .inr (3, [.ref q_iB, .int i_c])), (q_iB, .inl (cB, 10000, .inl i_f)), (q_o, .inr (3, [.ref q_oB, .int o_c])), (q_oB, .inl (cB, 10000, .inl o_f)), (q_t, .inr (3, [.ref q_tB, .int t_c])), (q_tB, .inl (cB, 10000, .inl t_f)), (q_mt, .inr (2, [.ref q_i, .ref q_mtb, .ref q_mtl, .int mt_from, .int mt_to, .int mt_len, .int mt_dist])), (q_mtb, .inl (cI, 10000, .inl mt_bef)), (q_mtl, .inl (cI, 2048, .inl mt_lat)), (q_bw, .inr (1, [.ref q_i, .ref q_t, .ref q_mt])), (q_sw, .inr (5, [.ref q_i, .ref q_t, .ref q_bw])), (q_br, .inr (0, [.ref q_i, .ref q_t, .int br_at, .int br_end, .int br_tb, .long br_len, .int br_fault, .int br_fp])), (q_sr, .inr (4, [.ref q_i, .ref q_t, .ref q_br, .int sr_at, .int sr_most, .int sr_fault, .int sr_fp]))] → lv_has ls 5 [(0, .ref q_h), (1, .int x1), (2, .int x2), (3, .int x3), (4, .int x4)] → W p l e rm_TP_chunks s m args below meth c H locs 0 0 (MQ below (tp_Qi D A r [(q_h, .inr (6, [.ref q_i, .ref q_o, .ref q_t, .ref q_mt, .ref q_bw, .ref q_sw, .ref q_br, .ref q_sr, .int h_place])), (q_i, .inr (3, [.ref q_iB, .int i_c])), (q_iB, .inl (cB, 10000, .inl i_f)), (q_o, .inr (3, [.ref q_oB, .int o_c'])), (q_oB, .inl (cB, 10000, .inl o_f')), (q_t, .inr (3, [.ref q_tB, .int t_c'])), (q_tB, .inl (cB, 10000, .inl t_f')), (q_mt, .inr (2, [.ref q_i, .ref q_mtb, .ref q_mtl, .int mt_from', .int mt_to', .int mt_len', .int mt_dist'])), (q_mtb, .inl (cI, 10000, .inl mt_bef')), (q_mtl, .inl (cI, 2048, .inl mt_lat')), (q_bw, .inr (1, [.ref q_i, .ref q_t, .ref q_mt])), (q_sw, .inr (5, [.ref q_i, .ref q_t, .ref q_bw])), (q_br, .inr (0, [.ref q_i, .ref q_t, .int br_at, .int br_end, .int br_tb, .long br_len, .int br_fault, .int br_fp])), (q_sr, .inr (4, [.ref q_i, .ref q_t, .ref q_br, .int sr_at, .int sr_most, .int sr_fault, .int sr_fp]))]) args s 0 0 A) (F0 m 57 ls []) := by
  obtain ⟨hF, hr, hlocks⟩ := id hF2
  obtain ⟨hx, hb, hml, hown, hts⟩ := id hF
  intro n
  induction n with
  | zero => intro x1 x2 x3 x4 o_c o_f t_c t_f mt_from mt_to mt_len mt_dist mt_bef mt_lat H locs ls hm; exact absurd hm (by simp [tp_it14])
  | succ n ih57 =>
    intro x1 x2 x3 x4 o_c o_f t_c t_f mt_from mt_to mt_len mt_dist mt_bef mt_lat H locs ls hm hw hl
    replace hm : m_TP_chunks_57 N i_c i_f  (tp_it14 (m_TP_chunks_57 N i_c i_f ) n) x1 x2 x3 x4 o_c o_f t_c t_f mt_from mt_to mt_len mt_dist mt_bef mt_lat = some (r, o_c', o_f', t_c', t_f', mt_from', mt_to', mt_len', mt_dist', mt_bef', mt_lat') := hm
    unfold m_TP_chunks_57 at hm
    refine lv_iload hx hb d_TP_chunks_57 (lv_at hl 4 rfl) ?_
    refine lv_aload_n hx hb d_TP_chunks_59 rfl (lv_at hl 0 rfl) ?_
    refine tp_get (v := .ref q_i) (C := R_TP) (T := T_TP) hx hb hts fw_TP hown hw 0 rfl rfl 0 (by decide +kernel) (hts _ wd_233) rfl d_TP_chunks_60 ?_
    refine tp_getN (v := .int i_c) (C := R_Row) (T := T_Row) hx hb hts fw_Row hown hw 1 rfl rfl 1 (by decide +kernel) nw_11 rfl d_TP_chunks_63 ?_
    refine lv_icmp_ge (tgt := 124) hx hb d_TP_chunks_66 (by decide +kernel) (fun hc16 => ?_) (fun hc16 => ?_)
    · replace hm := tp_it hc16 hm
      refine lv_aload_n hx hb d_TP_chunks_124 rfl (lv_at hl 0 rfl) ?_
      obtain ⟨r17, o_c_18, o_f_19, hm20, hm⟩ := tp_b3_e hm
      refine tp_calli (wr := []) (WS' := [(q_h, .inr (6, [.ref q_i, .ref q_o, .ref q_t, .ref q_mt, .ref q_bw, .ref q_sw, .ref q_br, .ref q_sr, .int h_place])), (q_i, .inr (3, [.ref q_iB, .int i_c])), (q_iB, .inl (cB, 10000, .inl i_f)), (q_o, .inr (3, [.ref q_oB, .int o_c_18])), (q_oB, .inl (cB, 10000, .inl o_f_19)), (q_t, .inr (3, [.ref q_tB, .int t_c])), (q_tB, .inl (cB, 10000, .inl t_f)), (q_mt, .inr (2, [.ref q_i, .ref q_mtb, .ref q_mtl, .int mt_from, .int mt_to, .int mt_len, .int mt_dist])), (q_mtb, .inl (cI, 10000, .inl mt_bef)), (q_mtl, .inl (cI, 2048, .inl mt_lat)), (q_bw, .inr (1, [.ref q_i, .ref q_t, .ref q_mt])), (q_sw, .inr (5, [.ref q_i, .ref q_t, .ref q_bw])), (q_br, .inr (0, [.ref q_i, .ref q_t, .int br_at, .int br_end, .int br_tb, .long br_len, .int br_fault, .int br_fp])), (q_sr, .inr (4, [.ref q_i, .ref q_t, .ref q_br, .int sr_at, .int sr_most, .int sr_fault, .int sr_fp]))]) (va_runV (As := []) (rest := []) hF (ct_TP_endWriting (l := l) (D := D) (cB := cB) (cI := cI) (tM := tM) (q_h := q_h) (q_i := q_i) (q_iB := q_iB) (q_o := q_o) (q_oB := q_oB) (q_t := q_t) (q_tB := q_tB) (q_mt := q_mt) (q_mtb := q_mtb) (q_mtl := q_mtl) (q_bw := q_bw) (q_sw := q_sw) (q_br := q_br) (q_sr := q_sr) (h_place := h_place) (i_c := i_c) (i_f := i_f) (o_c := o_c) (o_f := o_f) (t_c := t_c) (t_f := t_f) (mt_from := mt_from) (mt_to := mt_to) (mt_len := mt_len) (mt_dist := mt_dist) (mt_bef := mt_bef) (mt_lat := mt_lat) (br_at := br_at) (br_end := br_end) (br_tb := br_tb) (br_len := br_len) (br_fault := br_fault) (br_fp := br_fp) (sr_at := sr_at) (sr_most := sr_most) (sr_fault := sr_fault) (sr_fp := sr_fp) (r := r17) (o_c' := o_c_18) (o_f' := o_f_19) hm20 _) (cwV 0 hts (tpG_V wd_250 wd_251 wd_252 wd_239 wd_249) rfl rfl rfl ⟨rfl, yd_TP_endWriting⟩ ⟨Nat.le_of_ble_eq_true rfl, Nat.le_of_ble_eq_true rfl⟩) ⟨tp_blind, va_recv hw.1 hw.2.1 (ci := 6) (q0 := 0) rfl rfl, tp_pre hw [0, 1, 2, 3, 4, 5, 6, 7, 8, 9, 10, 11, 12, 13] rfl rfl⟩ rfl rfl hl.1 rfl (lv_room (Nat.le_of_ble_eq_true rfl)) d_TP_chunks_125 ⟨Nat.le_of_ble_eq_true rfl, Nat.le_of_ble_eq_true rfl⟩) hw [0, 1, 2, 3, 4, 5, 6, 7, 8, 9, 10, 11, 12, 13] [] [0, 1, 2, 3, 4, 5, 6, 7, 8, 9, 10, 11, 12, 13] rfl rfl rfl (by decide) rfl rfl (fun H locs hw => ?_)
      obtain ⟨rfl, rfl, rfl, rfl, rfl, rfl, rfl, rfl, rfl, rfl, rfl⟩ := tp_inj11 hm
      exact tp_iret hx hb hr hlocks hw d_TP_chunks_128
    · replace hm := tp_if hc16 hm
      refine lv_aload_n hx hb d_TP_chunks_69 rfl (lv_at hl 0 rfl) ?_
      refine tp_get (v := .ref q_t) (C := R_TP) (T := T_TP) hx hb hts fw_TP hown hw 0 rfl rfl 2 (by decide +kernel) (hts _ wd_226) rfl d_TP_chunks_70 ?_
      obtain ⟨r21, hm22, hm⟩ := tp_b1_e hm
      refine tp_calli (wr := [(q_h, .inr (6, [.ref q_i, .ref q_o, .ref q_t, .ref q_mt, .ref q_bw, .ref q_sw, .ref q_br, .ref q_sr, .int h_place])), (q_i, .inr (3, [.ref q_iB, .int i_c])), (q_iB, .inl (cB, 10000, .inl i_f)), (q_o, .inr (3, [.ref q_oB, .int o_c])), (q_oB, .inl (cB, 10000, .inl o_f)), (q_mt, .inr (2, [.ref q_i, .ref q_mtb, .ref q_mtl, .int mt_from, .int mt_to, .int mt_len, .int mt_dist])), (q_mtb, .inl (cI, 10000, .inl mt_bef)), (q_mtl, .inl (cI, 2048, .inl mt_lat)), (q_bw, .inr (1, [.ref q_i, .ref q_t, .ref q_mt])), (q_sw, .inr (5, [.ref q_i, .ref q_t, .ref q_bw])), (q_br, .inr (0, [.ref q_i, .ref q_t, .int br_at, .int br_end, .int br_tb, .long br_len, .int br_fault, .int br_fp])), (q_sr, .inr (4, [.ref q_i, .ref q_t, .ref q_br, .int sr_at, .int sr_most, .int sr_fault, .int sr_fp]))]) (WS' := [(q_h, .inr (6, [.ref q_i, .ref q_o, .ref q_t, .ref q_mt, .ref q_bw, .ref q_sw, .ref q_br, .ref q_sr, .int h_place])), (q_i, .inr (3, [.ref q_iB, .int i_c])), (q_iB, .inl (cB, 10000, .inl i_f)), (q_o, .inr (3, [.ref q_oB, .int o_c])), (q_oB, .inl (cB, 10000, .inl o_f)), (q_t, .inr (3, [.ref q_tB, .int t_c])), (q_tB, .inl (cB, 10000, .inl t_f)), (q_mt, .inr (2, [.ref q_i, .ref q_mtb, .ref q_mtl, .int mt_from, .int mt_to, .int mt_len, .int mt_dist])), (q_mtb, .inl (cI, 10000, .inl mt_bef)), (q_mtl, .inl (cI, 2048, .inl mt_lat)), (q_bw, .inr (1, [.ref q_i, .ref q_t, .ref q_mt])), (q_sw, .inr (5, [.ref q_i, .ref q_t, .ref q_bw])), (q_br, .inr (0, [.ref q_i, .ref q_t, .int br_at, .int br_end, .int br_tb, .long br_len, .int br_fault, .int br_fp])), (q_sr, .inr (4, [.ref q_i, .ref q_t, .ref q_br, .int sr_at, .int sr_most, .int sr_fault, .int sr_fp]))]) (va_runV (As := []) (rest := []) hF (ct_Row_fits (l := l) (D := D) (cB := cB) (cI := cI) (tM := tM) (q_a := q_t) (q_aB := q_tB) (a_c := t_c) (a_f := t_f) (r := r21) hm22 _) (cwV 0 hts (tpG_V wd_227 wd_17 wd_18 wd_3 wd_15) rfl rfl rfl ⟨rfl, yd_Row_fits⟩ ⟨Nat.le_of_ble_eq_true rfl, Nat.le_of_ble_eq_true rfl⟩) ⟨tp_blind, va_recv hw.1 hw.2.1 (ci := 3) (q0 := 5) rfl rfl, tp_pre hw [5, 6] rfl rfl⟩ rfl rfl hl.1 rfl (lv_room (Nat.le_of_ble_eq_true rfl)) d_TP_chunks_73 ⟨Nat.le_of_ble_eq_true rfl, Nat.le_of_ble_eq_true rfl⟩) hw [5, 6] [0, 1, 2, 3, 4, 7, 8, 9, 10, 11, 12, 13] [0, 1, 2, 3, 4, 12, 13, 5, 6, 7, 8, 9, 10, 11] rfl rfl rfl (by decide) rfl rfl (fun H locs hw => ?_)
      refine lv_if_eq (tgt := 124) hx hb d_TP_chunks_76 (by decide +kernel) (fun hc23 => ?_) (fun hc23 => ?_)
      · replace hm := tp_it hc23 hm
        refine lv_aload_n hx hb d_TP_chunks_124 rfl (lv_at hl 0 rfl) ?_
        obtain ⟨r24, o_c_25, o_f_26, hm27, hm⟩ := tp_b3_e hm
        refine tp_calli (wr := []) (WS' := [(q_h, .inr (6, [.ref q_i, .ref q_o, .ref q_t, .ref q_mt, .ref q_bw, .ref q_sw, .ref q_br, .ref q_sr, .int h_place])), (q_i, .inr (3, [.ref q_iB, .int i_c])), (q_iB, .inl (cB, 10000, .inl i_f)), (q_o, .inr (3, [.ref q_oB, .int o_c_25])), (q_oB, .inl (cB, 10000, .inl o_f_26)), (q_t, .inr (3, [.ref q_tB, .int t_c])), (q_tB, .inl (cB, 10000, .inl t_f)), (q_mt, .inr (2, [.ref q_i, .ref q_mtb, .ref q_mtl, .int mt_from, .int mt_to, .int mt_len, .int mt_dist])), (q_mtb, .inl (cI, 10000, .inl mt_bef)), (q_mtl, .inl (cI, 2048, .inl mt_lat)), (q_bw, .inr (1, [.ref q_i, .ref q_t, .ref q_mt])), (q_sw, .inr (5, [.ref q_i, .ref q_t, .ref q_bw])), (q_br, .inr (0, [.ref q_i, .ref q_t, .int br_at, .int br_end, .int br_tb, .long br_len, .int br_fault, .int br_fp])), (q_sr, .inr (4, [.ref q_i, .ref q_t, .ref q_br, .int sr_at, .int sr_most, .int sr_fault, .int sr_fp]))]) (va_runV (As := []) (rest := []) hF (ct_TP_endWriting (l := l) (D := D) (cB := cB) (cI := cI) (tM := tM) (q_h := q_h) (q_i := q_i) (q_iB := q_iB) (q_o := q_o) (q_oB := q_oB) (q_t := q_t) (q_tB := q_tB) (q_mt := q_mt) (q_mtb := q_mtb) (q_mtl := q_mtl) (q_bw := q_bw) (q_sw := q_sw) (q_br := q_br) (q_sr := q_sr) (h_place := h_place) (i_c := i_c) (i_f := i_f) (o_c := o_c) (o_f := o_f) (t_c := t_c) (t_f := t_f) (mt_from := mt_from) (mt_to := mt_to) (mt_len := mt_len) (mt_dist := mt_dist) (mt_bef := mt_bef) (mt_lat := mt_lat) (br_at := br_at) (br_end := br_end) (br_tb := br_tb) (br_len := br_len) (br_fault := br_fault) (br_fp := br_fp) (sr_at := sr_at) (sr_most := sr_most) (sr_fault := sr_fault) (sr_fp := sr_fp) (r := r24) (o_c' := o_c_25) (o_f' := o_f_26) hm27 _) (cwV 0 hts (tpG_V wd_250 wd_251 wd_252 wd_239 wd_249) rfl rfl rfl ⟨rfl, yd_TP_endWriting⟩ ⟨Nat.le_of_ble_eq_true rfl, Nat.le_of_ble_eq_true rfl⟩) ⟨tp_blind, va_recv hw.1 hw.2.1 (ci := 6) (q0 := 0) rfl rfl, tp_pre hw [0, 1, 2, 3, 4, 5, 6, 7, 8, 9, 10, 11, 12, 13] rfl rfl⟩ rfl rfl hl.1 rfl (lv_room (Nat.le_of_ble_eq_true rfl)) d_TP_chunks_125 ⟨Nat.le_of_ble_eq_true rfl, Nat.le_of_ble_eq_true rfl⟩) hw [0, 1, 2, 3, 4, 5, 6, 7, 8, 9, 10, 11, 12, 13] [] [0, 1, 2, 3, 4, 5, 6, 7, 8, 9, 10, 11, 12, 13] rfl rfl rfl (by decide) rfl rfl (fun H locs hw => ?_)
        obtain ⟨rfl, rfl, rfl, rfl, rfl, rfl, rfl, rfl, rfl, rfl, rfl⟩ := tp_inj11 hm
        exact tp_iret hx hb hr hlocks hw d_TP_chunks_128
      · replace hm := tp_if hc23 hm
        refine lv_aload_n hx hb d_TP_chunks_79 rfl (lv_at hl 0 rfl) ?_
        refine tp_get (v := .ref q_sw) (C := R_TP) (T := T_TP) hx hb hts fw_TP hown hw 0 rfl rfl 5 (by decide +kernel) (hts _ wd_262) rfl d_TP_chunks_80 ?_
        refine lv_iload hx hb d_TP_chunks_83 (lv_at hl 4 rfl) ?_
        refine lv_iload hx hb d_TP_chunks_85 (lv_at hl 4 rfl) ?_
        refine lv_iload_n hx hb d_TP_chunks_87 rfl (lv_at hl 1 rfl) ?_
        refine lv_iadd hx hb d_TP_chunks_88 ?_
        refine lv_aload_n hx hb d_TP_chunks_89 rfl (lv_at hl 0 rfl) ?_
        refine tp_get (v := .ref q_i) (C := R_TP) (T := T_TP) hx hb hts fw_TP hown hw 0 rfl rfl 0 (by decide +kernel) (hts _ wd_233) rfl d_TP_chunks_90 ?_
        refine tp_getN (v := .int i_c) (C := R_Row) (T := T_Row) hx hb hts fw_Row hown hw 1 rfl rfl 1 (by decide +kernel) nw_11 rfl d_TP_chunks_93 ?_
        refine va_mmin hx hb (hml.trans hl.1.symm) hown (hts _ wd_268) (hts _ wd_53) (hts _ wd_49) (hts _ wd_54) (Nat.le_of_ble_eq_true rfl) (Nat.le_of_ble_eq_true rfl) (Nat.le_of_ble_eq_true rfl) (Nat.le_of_ble_eq_true rfl) d_TP_chunks_96 ?_
        refine lv_iload_n hx hb d_TP_chunks_99 rfl (lv_at hl 2 rfl) ?_
        obtain ⟨t_c_28, t_f_29, mt_from_30, mt_to_31, mt_len_32, mt_dist_33, hm34, hm⟩ := tp_b6_e hm
        refine tp_callv (wr := [(q_h, .inr (6, [.ref q_i, .ref q_o, .ref q_t, .ref q_mt, .ref q_bw, .ref q_sw, .ref q_br, .ref q_sr, .int h_place])), (q_o, .inr (3, [.ref q_oB, .int o_c])), (q_oB, .inl (cB, 10000, .inl o_f)), (q_br, .inr (0, [.ref q_i, .ref q_t, .int br_at, .int br_end, .int br_tb, .long br_len, .int br_fault, .int br_fp])), (q_sr, .inr (4, [.ref q_i, .ref q_t, .ref q_br, .int sr_at, .int sr_most, .int sr_fault, .int sr_fp]))]) (WS' := [(q_h, .inr (6, [.ref q_i, .ref q_o, .ref q_t, .ref q_mt, .ref q_bw, .ref q_sw, .ref q_br, .ref q_sr, .int h_place])), (q_i, .inr (3, [.ref q_iB, .int i_c])), (q_iB, .inl (cB, 10000, .inl i_f)), (q_o, .inr (3, [.ref q_oB, .int o_c])), (q_oB, .inl (cB, 10000, .inl o_f)), (q_t, .inr (3, [.ref q_tB, .int t_c_28])), (q_tB, .inl (cB, 10000, .inl t_f_29)), (q_mt, .inr (2, [.ref q_i, .ref q_mtb, .ref q_mtl, .int mt_from_30, .int mt_to_31, .int mt_len_32, .int mt_dist_33])), (q_mtb, .inl (cI, 10000, .inl mt_bef)), (q_mtl, .inl (cI, 2048, .inl mt_lat)), (q_bw, .inr (1, [.ref q_i, .ref q_t, .ref q_mt])), (q_sw, .inr (5, [.ref q_i, .ref q_t, .ref q_bw])), (q_br, .inr (0, [.ref q_i, .ref q_t, .int br_at, .int br_end, .int br_tb, .long br_len, .int br_fault, .int br_fp])), (q_sr, .inr (4, [.ref q_i, .ref q_t, .ref q_br, .int sr_at, .int sr_most, .int sr_fault, .int sr_fp]))]) (va_runV (As := [.int x4, .int (if i_c < (x4 + x1) then i_c else (x4 + x1)), .int x2]) (rest := []) hF (ct_StreamWriter_putData (l := l) (D := D) (cB := cB) (cI := cI) (tM := tM) (q_sw := q_sw) (q_i := q_i) (q_iB := q_iB) (q_t := q_t) (q_tB := q_tB) (q_bw := q_bw) (q_mt := q_mt) (q_mtb := q_mtb) (q_mtl := q_mtl) (i_c := i_c) (i_f := i_f) (t_c := t_c) (t_f := t_f) (mt_from := mt_from) (mt_to := mt_to) (mt_len := mt_len) (mt_dist := mt_dist) (mt_bef := mt_bef) (mt_lat := mt_lat) (x1 := x4) (x2 := (if i_c < (x4 + x1) then i_c else (x4 + x1))) (x3 := x2) (N := N) (t_c' := t_c_28) (t_f' := t_f_29) (mt_from' := mt_from_30) (mt_to' := mt_to_31) (mt_len' := mt_len_32) (mt_dist' := mt_dist_33) hm34 _) (cwV 3 hts (tpG_V wd_270 wd_271 wd_272 wd_264 wd_269) rfl rfl rfl ⟨rfl, yd_StreamWriter_putData⟩ ⟨Nat.le_of_ble_eq_true rfl, Nat.le_of_ble_eq_true rfl⟩) ⟨tp_blind, va_recv hw.1 hw.2.1 (ci := 5) (q0 := 11) rfl rfl, tp_pre hw [11, 1, 2, 5, 6, 10, 7, 8, 9] rfl rfl⟩ rfl rfl hl.1 rfl (lv_room (Nat.le_of_ble_eq_true rfl)) d_TP_chunks_100 ⟨Nat.le_of_ble_eq_true rfl, Nat.le_of_ble_eq_true rfl⟩) hw [11, 1, 2, 5, 6, 10, 7, 8, 9] [0, 3, 4, 12, 13] [0, 6, 7, 1, 2, 8, 9, 11, 12, 13, 10, 5, 3, 4] rfl rfl rfl (by decide) rfl rfl (fun H locs hw => ?_)
        refine lv_iload_n hx hb d_TP_chunks_103 rfl (lv_at hl 3 rfl) ?_
        refine lv_if_le (tgt := 115) hx hb d_TP_chunks_104 (by decide +kernel) (fun hc35 => ?_) (fun hc35 => ?_)
        · replace hm := tp_it hc35 hm
          refine lv_iload hx hb d_TP_chunks_115 (lv_at hl 4 rfl) ?_
          refine lv_iload_n hx hb d_TP_chunks_117 rfl (lv_at hl 1 rfl) ?_
          refine lv_iadd hx hb d_TP_chunks_118 ?_
          refine lv_istore (lv' := [(4, .int (x4 + x1)), (0, .ref q_h), (1, .int x1), (2, .int x2), (3, .int x3)]) hx hb d_TP_chunks_119 hl (by decide +kernel) rfl (fun ls hl => ?_)
          refine lv_goto (tgt := 57) hx hb d_TP_chunks_121 (by decide +kernel) ?_
          exact ih57 _ _ _ _ _ _ _ _ _ _ _ _ _ _ _ _ _ hm hw (lv_sub hl [1, 2, 3, 4, 0] rfl)
        · replace hm := tp_if hc35 hm
          refine lv_aload_n hx hb d_TP_chunks_107 rfl (lv_at hl 0 rfl) ?_
          refine tp_get (v := .ref q_sw) (C := R_TP) (T := T_TP) hx hb hts fw_TP hown hw 0 rfl rfl 5 (by decide +kernel) (hts _ wd_262) rfl d_TP_chunks_108 ?_
          refine lv_iload_n hx hb d_TP_chunks_111 rfl (lv_at hl 3 rfl) ?_
          obtain ⟨t_c_36, t_f_37, hm38, hm⟩ := tp_b2_e hm
          refine tp_callv (wr := [(q_h, .inr (6, [.ref q_i, .ref q_o, .ref q_t, .ref q_mt, .ref q_bw, .ref q_sw, .ref q_br, .ref q_sr, .int h_place])), (q_o, .inr (3, [.ref q_oB, .int o_c])), (q_oB, .inl (cB, 10000, .inl o_f)), (q_br, .inr (0, [.ref q_i, .ref q_t, .int br_at, .int br_end, .int br_tb, .long br_len, .int br_fault, .int br_fp])), (q_sr, .inr (4, [.ref q_i, .ref q_t, .ref q_br, .int sr_at, .int sr_most, .int sr_fault, .int sr_fp]))]) (WS' := [(q_h, .inr (6, [.ref q_i, .ref q_o, .ref q_t, .ref q_mt, .ref q_bw, .ref q_sw, .ref q_br, .ref q_sr, .int h_place])), (q_i, .inr (3, [.ref q_iB, .int i_c])), (q_iB, .inl (cB, 10000, .inl i_f)), (q_o, .inr (3, [.ref q_oB, .int o_c])), (q_oB, .inl (cB, 10000, .inl o_f)), (q_t, .inr (3, [.ref q_tB, .int t_c_36])), (q_tB, .inl (cB, 10000, .inl t_f_37)), (q_mt, .inr (2, [.ref q_i, .ref q_mtb, .ref q_mtl, .int mt_from_30, .int mt_to_31, .int mt_len_32, .int mt_dist_33])), (q_mtb, .inl (cI, 10000, .inl mt_bef)), (q_mtl, .inl (cI, 2048, .inl mt_lat)), (q_bw, .inr (1, [.ref q_i, .ref q_t, .ref q_mt])), (q_sw, .inr (5, [.ref q_i, .ref q_t, .ref q_bw])), (q_br, .inr (0, [.ref q_i, .ref q_t, .int br_at, .int br_end, .int br_tb, .long br_len, .int br_fault, .int br_fp])), (q_sr, .inr (4, [.ref q_i, .ref q_t, .ref q_br, .int sr_at, .int sr_most, .int sr_fault, .int sr_fp]))]) (va_runV (As := [.int x3]) (rest := []) hF (ct_StreamWriter_putSpare (l := l) (D := D) (cB := cB) (cI := cI) (tM := tM) (q_sw := q_sw) (q_i := q_i) (q_iB := q_iB) (q_t := q_t) (q_tB := q_tB) (q_bw := q_bw) (q_mt := q_mt) (q_mtb := q_mtb) (q_mtl := q_mtl) (i_c := i_c) (i_f := i_f) (t_c := t_c_28) (t_f := t_f_29) (mt_from := mt_from_30) (mt_to := mt_to_31) (mt_len := mt_len_32) (mt_dist := mt_dist_33) (mt_bef := mt_bef) (mt_lat := mt_lat) (x1 := x3) (N := N) (t_c' := t_c_36) (t_f' := t_f_37) hm38 _) (cwV 1 hts (tpG_V wd_274 wd_275 wd_276 wd_264 wd_273) rfl rfl rfl ⟨rfl, yd_StreamWriter_putSpare⟩ ⟨Nat.le_of_ble_eq_true rfl, Nat.le_of_ble_eq_true rfl⟩) ⟨tp_blind, va_recv hw.1 hw.2.1 (ci := 5) (q0 := 11) rfl rfl, tp_pre hw [11, 1, 2, 5, 6, 10, 7, 8, 9] rfl rfl⟩ rfl rfl hl.1 rfl (lv_room (Nat.le_of_ble_eq_true rfl)) d_TP_chunks_112 ⟨Nat.le_of_ble_eq_true rfl, Nat.le_of_ble_eq_true rfl⟩) hw [11, 1, 2, 5, 6, 10, 7, 8, 9] [0, 3, 4, 12, 13] [0, 6, 7, 1, 2, 8, 9, 11, 12, 13, 10, 5, 3, 4] rfl rfl rfl (by decide) rfl rfl (fun H locs hw => ?_)
          refine lv_iload hx hb d_TP_chunks_115 (lv_at hl 4 rfl) ?_
          refine lv_iload_n hx hb d_TP_chunks_117 rfl (lv_at hl 1 rfl) ?_
          refine lv_iadd hx hb d_TP_chunks_118 ?_
          refine lv_istore (lv' := [(4, .int (x4 + x1)), (0, .ref q_h), (1, .int x1), (2, .int x2), (3, .int x3)]) hx hb d_TP_chunks_119 hl (by decide +kernel) rfl (fun ls hl => ?_)
          refine lv_goto (tgt := 57) hx hb d_TP_chunks_121 (by decide +kernel) ?_
          exact ih57 _ _ _ _ _ _ _ _ _ _ _ _ _ _ _ _ _ hm hw (lv_sub hl [1, 2, 3, 4, 0] rfl)
set_option maxHeartbeats 4000000 in
set_option maxRecDepth 100000 in
theorem ct_TP_chunks {q_h q_i q_iB q_o q_oB q_t q_tB q_mt q_mtb q_mtl q_bw q_sw q_br q_sr : Nat} {h_place : Int32} {i_c : Int32} {i_f : Nat → Int32} {o_c : Int32} {o_f : Nat → Int32} {t_c : Int32} {t_f : Nat → Int32} {mt_from : Int32} {mt_to : Int32} {mt_len : Int32} {mt_dist : Int32} {mt_bef : Nat → Int32} {mt_lat : Nat → Int32} {br_at : Int32} {br_end : Int32} {br_tb : Int32} {br_len : Int64} {br_fault : Int32} {br_fp : Int32} {sr_at : Int32} {sr_most : Int32} {sr_fault : Int32} {sr_fp : Int32} {N : Nat} {x1 : Int32} {x2 : Int32} {x3 : Int32} {r : Int32} {o_c' : Int32} {o_f' : Nat → Int32} {t_c' : Int32} {t_f' : Nat → Int32} {mt_from' : Int32} {mt_to' : Int32} {mt_len' : Int32} {mt_dist' : Int32} {mt_bef' : Nat → Int32} {mt_lat' : Nat → Int32} (hm : m_TP_chunks N x1 x2 x3 i_c i_f o_c o_f t_c t_f mt_from mt_to mt_len mt_dist mt_bef mt_lat = some (r, o_c', o_f', t_c', t_f', mt_from', mt_to', mt_len', mt_dist', mt_bef', mt_lat')) (sz : Nat) : tp_Ci l y_TP_chunks ws_TP_chunks rm_TP_chunks D (tp_ty cB cI) tM [.ref q_h, .int x1, .int x2, .int x3] [(q_h, .inr (6, [.ref q_i, .ref q_o, .ref q_t, .ref q_mt, .ref q_bw, .ref q_sw, .ref q_br, .ref q_sr, .int h_place])), (q_i, .inr (3, [.ref q_iB, .int i_c])), (q_iB, .inl (cB, 10000, .inl i_f)), (q_o, .inr (3, [.ref q_oB, .int o_c])), (q_oB, .inl (cB, 10000, .inl o_f)), (q_t, .inr (3, [.ref q_tB, .int t_c])), (q_tB, .inl (cB, 10000, .inl t_f)), (q_mt, .inr (2, [.ref q_i, .ref q_mtb, .ref q_mtl, .int mt_from, .int mt_to, .int mt_len, .int mt_dist])), (q_mtb, .inl (cI, 10000, .inl mt_bef)), (q_mtl, .inl (cI, 2048, .inl mt_lat)), (q_bw, .inr (1, [.ref q_i, .ref q_t, .ref q_mt])), (q_sw, .inr (5, [.ref q_i, .ref q_t, .ref q_bw])), (q_br, .inr (0, [.ref q_i, .ref q_t, .int br_at, .int br_end, .int br_tb, .long br_len, .int br_fault, .int br_fp])), (q_sr, .inr (4, [.ref q_i, .ref q_t, .ref q_br, .int sr_at, .int sr_most, .int sr_fault, .int sr_fp]))] sz r [(q_h, .inr (6, [.ref q_i, .ref q_o, .ref q_t, .ref q_mt, .ref q_bw, .ref q_sw, .ref q_br, .ref q_sr, .int h_place])), (q_i, .inr (3, [.ref q_iB, .int i_c])), (q_iB, .inl (cB, 10000, .inl i_f)), (q_o, .inr (3, [.ref q_oB, .int o_c'])), (q_oB, .inl (cB, 10000, .inl o_f')), (q_t, .inr (3, [.ref q_tB, .int t_c'])), (q_tB, .inl (cB, 10000, .inl t_f')), (q_mt, .inr (2, [.ref q_i, .ref q_mtb, .ref q_mtl, .int mt_from', .int mt_to', .int mt_len', .int mt_dist'])), (q_mtb, .inl (cI, 10000, .inl mt_bef')), (q_mtl, .inl (cI, 2048, .inl mt_lat')), (q_bw, .inr (1, [.ref q_i, .ref q_t, .ref q_mt])), (q_sw, .inr (5, [.ref q_i, .ref q_t, .ref q_bw])), (q_br, .inr (0, [.ref q_i, .ref q_t, .int br_at, .int br_end, .int br_tb, .long br_len, .int br_fault, .int br_fp])), (q_sr, .inr (4, [.ref q_i, .ref q_t, .ref q_br, .int sr_at, .int sr_most, .int sr_fault, .int sr_fp]))] := by
  refine Met.ofW (cc := c_TP_chunks) (maxL := 5) (ret := (some .int)) (by decide) rfl ?_
  intro p e s m args below meth c s₁ B hml hv
  obtain ⟨rfl, hv⟩ := hv
  have hw := tp_entry hv
  generalize va_A [(q_h, .inr (6, [.ref q_i, .ref q_o, .ref q_t, .ref q_mt, .ref q_bw, .ref q_sw, .ref q_br, .ref q_sr, .int h_place])), (q_i, .inr (3, [.ref q_iB, .int i_c])), (q_iB, .inl (cB, 10000, .inl i_f)), (q_o, .inr (3, [.ref q_oB, .int o_c])), (q_oB, .inl (cB, 10000, .inl o_f)), (q_t, .inr (3, [.ref q_tB, .int t_c])), (q_tB, .inl (cB, 10000, .inl t_f)), (q_mt, .inr (2, [.ref q_i, .ref q_mtb, .ref q_mtl, .int mt_from, .int mt_to, .int mt_len, .int mt_dist])), (q_mtb, .inl (cI, 10000, .inl mt_bef)), (q_mtl, .inl (cI, 2048, .inl mt_lat)), (q_bw, .inr (1, [.ref q_i, .ref q_t, .ref q_mt])), (q_sw, .inr (5, [.ref q_i, .ref q_t, .ref q_bw])), (q_br, .inr (0, [.ref q_i, .ref q_t, .int br_at, .int br_end, .int br_tb, .long br_len, .int br_fault, .int br_fp])), (q_sr, .inr (4, [.ref q_i, .ref q_t, .ref q_br, .int sr_at, .int sr_most, .int sr_fault, .int sr_fp]))] sz = A at hw ⊢
  have hx := B.exec
  have hb := B.bytes
  have hr := B.returns
  have hts0 := atoms_spec (ws := ws_TP_chunks) B.pre
  have hts := fun w h => hts0 w (List.mem_cons_of_mem _ h)
  have hown : s.vm.findClass R_TP = some m.cls := findClass_of_methodNamed B.named
  have hlocks := B.notSynchronized
  have hF : CallFix p m c c_TP_chunks 5 s _ tpG R_TP := ⟨hx, hb, hml, hown, hts⟩
  have hF2 : tp_F p m c c_TP_chunks 5 s _ tpG R_TP meth (some .int) := ⟨hF, hr, hlocks⟩
  have hl := lv_entry ([.ref q_h, .int x1, .int x2, .int x3]) (n := 5) (Nat.le_of_ble_eq_true rfl)
  rw [lg_entry_eq]
  generalize (lg_sl ([.ref q_h, .int x1, .int x2, .int x3]) ++ List.replicate (5 - (lg_sl ([.ref q_h, .int x1, .int x2, .int x3])).length) Slot.unset).toArray = ls at hl ⊢
  replace hl : lv_has ls 5 [(0, .ref q_h), (1, .int x1), (2, .int x2), (3, .int x3)] := hl
  unfold m_TP_chunks at hm
  refine lv_iload_n hx hb d_TP_chunks_0 rfl (lv_at hl 1 rfl) ?_
  refine lv_iconst (v := (1 : Int32)) hx hb d_TP_chunks_1 (by decide +kernel) ?_
  refine lv_icmp_lt (tgt := 30) hx hb d_TP_chunks_2 (by decide +kernel) (fun hc1 => ?_) (fun hc1 => ?_)
  · replace hm := tp_it hc1 hm
    refine lv_iconst (v := (-1 : Int32)) hx hb d_TP_chunks_30 (by decide +kernel) ?_
    obtain ⟨rfl, rfl, rfl, rfl, rfl, rfl, rfl, rfl, rfl, rfl, rfl⟩ := tp_inj11 hm
    exact tp_iret hx hb hr hlocks hw d_TP_chunks_31
  · replace hm := tp_if hc1 hm
    refine lv_iload_n hx hb d_TP_chunks_5 rfl (lv_at hl 1 rfl) ?_
    refine lv_sipush (v := (10000 : Int32)) hx hb d_TP_chunks_6 (by decide +kernel) ?_
    refine lv_icmp_gt (tgt := 30) hx hb d_TP_chunks_9 (by decide +kernel) (fun hc2 => ?_) (fun hc2 => ?_)
    · replace hm := tp_it hc2 hm
      refine lv_iconst (v := (-1 : Int32)) hx hb d_TP_chunks_30 (by decide +kernel) ?_
      obtain ⟨rfl, rfl, rfl, rfl, rfl, rfl, rfl, rfl, rfl, rfl, rfl⟩ := tp_inj11 hm
      exact tp_iret hx hb hr hlocks hw d_TP_chunks_31
    · replace hm := tp_if hc2 hm
      refine lv_iload_n hx hb d_TP_chunks_12 rfl (lv_at hl 2 rfl) ?_
      obtain ⟨r3, hm4, hm⟩ := tp_b1_e hm
      refine tp_calli (wr := [(q_h, .inr (6, [.ref q_i, .ref q_o, .ref q_t, .ref q_mt, .ref q_bw, .ref q_sw, .ref q_br, .ref q_sr, .int h_place])), (q_i, .inr (3, [.ref q_iB, .int i_c])), (q_iB, .inl (cB, 10000, .inl i_f)), (q_o, .inr (3, [.ref q_oB, .int o_c])), (q_oB, .inl (cB, 10000, .inl o_f)), (q_t, .inr (3, [.ref q_tB, .int t_c])), (q_tB, .inl (cB, 10000, .inl t_f)), (q_mt, .inr (2, [.ref q_i, .ref q_mtb, .ref q_mtl, .int mt_from, .int mt_to, .int mt_len, .int mt_dist])), (q_mtb, .inl (cI, 10000, .inl mt_bef)), (q_mtl, .inl (cI, 2048, .inl mt_lat)), (q_bw, .inr (1, [.ref q_i, .ref q_t, .ref q_mt])), (q_sw, .inr (5, [.ref q_i, .ref q_t, .ref q_bw])), (q_br, .inr (0, [.ref q_i, .ref q_t, .int br_at, .int br_end, .int br_tb, .long br_len, .int br_fault, .int br_fp])), (q_sr, .inr (4, [.ref q_i, .ref q_t, .ref q_br, .int sr_at, .int sr_most, .int sr_fault, .int sr_fp]))]) (WS' := [(q_h, .inr (6, [.ref q_i, .ref q_o, .ref q_t, .ref q_mt, .ref q_bw, .ref q_sw, .ref q_br, .ref q_sr, .int h_place])), (q_i, .inr (3, [.ref q_iB, .int i_c])), (q_iB, .inl (cB, 10000, .inl i_f)), (q_o, .inr (3, [.ref q_oB, .int o_c])), (q_oB, .inl (cB, 10000, .inl o_f)), (q_t, .inr (3, [.ref q_tB, .int t_c])), (q_tB, .inl (cB, 10000, .inl t_f)), (q_mt, .inr (2, [.ref q_i, .ref q_mtb, .ref q_mtl, .int mt_from, .int mt_to, .int mt_len, .int mt_dist])), (q_mtb, .inl (cI, 10000, .inl mt_bef)), (q_mtl, .inl (cI, 2048, .inl mt_lat)), (q_bw, .inr (1, [.ref q_i, .ref q_t, .ref q_mt])), (q_sw, .inr (5, [.ref q_i, .ref q_t, .ref q_bw])), (q_br, .inr (0, [.ref q_i, .ref q_t, .int br_at, .int br_end, .int br_tb, .long br_len, .int br_fault, .int br_fp])), (q_sr, .inr (4, [.ref q_i, .ref q_t, .ref q_br, .int sr_at, .int sr_most, .int sr_fault, .int sr_fp]))]) (va_runS (As := [.int x2]) (rest := []) hF (ct_TP_isNoWay (l := l) (D := D) (cB := cB) (cI := cI) (tM := tM) (x0 := x2) (r := r3) hm4 _) (va_cwS 1 hts (tpG_S wd_240 wd_241 wd_239 wd_238) rfl rfl rfl yd_TP_isNoWay ⟨Nat.le_of_ble_eq_true rfl, Nat.le_of_ble_eq_true rfl⟩) ⟨tp_blind, tp_pre hw [] rfl rfl⟩ rfl rfl hl.1 rfl (lv_room (Nat.le_of_ble_eq_true rfl)) d_TP_chunks_13 ⟨Nat.le_of_ble_eq_true rfl, Nat.le_of_ble_eq_true rfl⟩) hw [] [0, 1, 2, 3, 4, 5, 6, 7, 8, 9, 10, 11, 12, 13] [0, 1, 2, 3, 4, 5, 6, 7, 8, 9, 10, 11, 12, 13] rfl rfl rfl (by decide) rfl rfl (fun H locs hw => ?_)
      refine lv_if_ne (tgt := 30) hx hb d_TP_chunks_16 (by decide +kernel) (fun hc5 => ?_) (fun hc5 => ?_)
      · replace hm := tp_if hc5 hm
        refine lv_iconst (v := (-1 : Int32)) hx hb d_TP_chunks_30 (by decide +kernel) ?_
        obtain ⟨rfl, rfl, rfl, rfl, rfl, rfl, rfl, rfl, rfl, rfl, rfl⟩ := tp_inj11 hm
        exact tp_iret hx hb hr hlocks hw d_TP_chunks_31
      · replace hm := tp_it hc5 hm
        refine lv_iload_n hx hb d_TP_chunks_19 rfl (lv_at hl 3 rfl) ?_
        refine lv_if_lt (tgt := 30) hx hb d_TP_chunks_20 (by decide +kernel) (fun hc6 => ?_) (fun hc6 => ?_)
        · replace hm := tp_it hc6 hm
          refine lv_iconst (v := (-1 : Int32)) hx hb d_TP_chunks_30 (by decide +kernel) ?_
          obtain ⟨rfl, rfl, rfl, rfl, rfl, rfl, rfl, rfl, rfl, rfl, rfl⟩ := tp_inj11 hm
          exact tp_iret hx hb hr hlocks hw d_TP_chunks_31
        · replace hm := tp_if hc6 hm
          refine lv_iload_n hx hb d_TP_chunks_23 rfl (lv_at hl 3 rfl) ?_
          refine lv_sipush (v := (255 : Int32)) hx hb d_TP_chunks_24 (by decide +kernel) ?_
          refine lv_icmp_le (tgt := 32) hx hb d_TP_chunks_27 (by decide +kernel) (fun hc7 => ?_) (fun hc7 => ?_)
          · replace hm := tp_it hc7 hm
            refine lv_aload_n hx hb d_TP_chunks_32 rfl (lv_at hl 0 rfl) ?_
            refine tp_get (v := .ref q_t) (C := R_TP) (T := T_TP) hx hb hts fw_TP hown hw 0 rfl rfl 2 (by decide +kernel) (hts _ wd_226) rfl d_TP_chunks_33 ?_
            refine lv_iconst (v := (0 : Int32)) hx hb d_TP_chunks_36 (by decide +kernel) ?_
            obtain ⟨a_c_8, hm9, hm⟩ := tp_b1_e hm
            refine tp_callv (wr := [(q_h, .inr (6, [.ref q_i, .ref q_o, .ref q_t, .ref q_mt, .ref q_bw, .ref q_sw, .ref q_br, .ref q_sr, .int h_place])), (q_i, .inr (3, [.ref q_iB, .int i_c])), (q_iB, .inl (cB, 10000, .inl i_f)), (q_o, .inr (3, [.ref q_oB, .int o_c])), (q_oB, .inl (cB, 10000, .inl o_f)), (q_mt, .inr (2, [.ref q_i, .ref q_mtb, .ref q_mtl, .int mt_from, .int mt_to, .int mt_len, .int mt_dist])), (q_mtb, .inl (cI, 10000, .inl mt_bef)), (q_mtl, .inl (cI, 2048, .inl mt_lat)), (q_bw, .inr (1, [.ref q_i, .ref q_t, .ref q_mt])), (q_sw, .inr (5, [.ref q_i, .ref q_t, .ref q_bw])), (q_br, .inr (0, [.ref q_i, .ref q_t, .int br_at, .int br_end, .int br_tb, .long br_len, .int br_fault, .int br_fp])), (q_sr, .inr (4, [.ref q_i, .ref q_t, .ref q_br, .int sr_at, .int sr_most, .int sr_fault, .int sr_fp]))]) (WS' := [(q_h, .inr (6, [.ref q_i, .ref q_o, .ref q_t, .ref q_mt, .ref q_bw, .ref q_sw, .ref q_br, .ref q_sr, .int h_place])), (q_i, .inr (3, [.ref q_iB, .int i_c])), (q_iB, .inl (cB, 10000, .inl i_f)), (q_o, .inr (3, [.ref q_oB, .int o_c])), (q_oB, .inl (cB, 10000, .inl o_f)), (q_t, .inr (3, [.ref q_tB, .int a_c_8])), (q_tB, .inl (cB, 10000, .inl t_f)), (q_mt, .inr (2, [.ref q_i, .ref q_mtb, .ref q_mtl, .int mt_from, .int mt_to, .int mt_len, .int mt_dist])), (q_mtb, .inl (cI, 10000, .inl mt_bef)), (q_mtl, .inl (cI, 2048, .inl mt_lat)), (q_bw, .inr (1, [.ref q_i, .ref q_t, .ref q_mt])), (q_sw, .inr (5, [.ref q_i, .ref q_t, .ref q_bw])), (q_br, .inr (0, [.ref q_i, .ref q_t, .int br_at, .int br_end, .int br_tb, .long br_len, .int br_fault, .int br_fp])), (q_sr, .inr (4, [.ref q_i, .ref q_t, .ref q_br, .int sr_at, .int sr_most, .int sr_fault, .int sr_fp]))]) (va_runV (As := [.int (0 : Int32)]) (rest := []) hF (ct_Row_shorten (l := l) (D := D) (cB := cB) (cI := cI) (tM := tM) (q_a := q_t) (q_aB := q_tB) (a_c := t_c) (a_f := t_f) (x1 := (0 : Int32)) (a_c' := a_c_8) hm9 _) (cwV 1 hts (tpG_V wd_237 wd_127 wd_128 wd_3 wd_125) rfl rfl rfl ⟨rfl, yd_Row_shorten⟩ ⟨Nat.le_of_ble_eq_true rfl, Nat.le_of_ble_eq_true rfl⟩) ⟨tp_blind, va_recv hw.1 hw.2.1 (ci := 3) (q0 := 5) rfl rfl, tp_pre hw [5, 6] rfl rfl⟩ rfl rfl hl.1 rfl (lv_room (Nat.le_of_ble_eq_true rfl)) d_TP_chunks_37 ⟨Nat.le_of_ble_eq_true rfl, Nat.le_of_ble_eq_true rfl⟩) hw [5, 6] [0, 1, 2, 3, 4, 7, 8, 9, 10, 11, 12, 13] [0, 1, 2, 3, 4, 12, 13, 5, 6, 7, 8, 9, 10, 11] rfl rfl rfl (by decide) rfl rfl (fun H locs hw => ?_)
            refine lv_aload_n hx hb d_TP_chunks_40 rfl (lv_at hl 0 rfl) ?_
            refine tp_get (v := .ref q_mt) (C := R_TP) (T := T_TP) hx hb hts fw_TP hown hw 0 rfl rfl 3 (by decide +kernel) (hts _ wd_242) rfl d_TP_chunks_41 ?_
            obtain ⟨mt_bef_10, mt_lat_11, hm12, hm⟩ := tp_b2_e hm
            refine tp_callv (wr := [(q_h, .inr (6, [.ref q_i, .ref q_o, .ref q_t, .ref q_mt, .ref q_bw, .ref q_sw, .ref q_br, .ref q_sr, .int h_place])), (q_o, .inr (3, [.ref q_oB, .int o_c])), (q_oB, .inl (cB, 10000, .inl o_f)), (q_t, .inr (3, [.ref q_tB, .int a_c_8])), (q_tB, .inl (cB, 10000, .inl t_f)), (q_bw, .inr (1, [.ref q_i, .ref q_t, .ref q_mt])), (q_sw, .inr (5, [.ref q_i, .ref q_t, .ref q_bw])), (q_br, .inr (0, [.ref q_i, .ref q_t, .int br_at, .int br_end, .int br_tb, .long br_len, .int br_fault, .int br_fp])), (q_sr, .inr (4, [.ref q_i, .ref q_t, .ref q_br, .int sr_at, .int sr_most, .int sr_fault, .int sr_fp]))]) (WS' := [(q_h, .inr (6, [.ref q_i, .ref q_o, .ref q_t, .ref q_mt, .ref q_bw, .ref q_sw, .ref q_br, .ref q_sr, .int h_place])), (q_i, .inr (3, [.ref q_iB, .int i_c])), (q_iB, .inl (cB, 10000, .inl i_f)), (q_o, .inr (3, [.ref q_oB, .int o_c])), (q_oB, .inl (cB, 10000, .inl o_f)), (q_t, .inr (3, [.ref q_tB, .int a_c_8])), (q_tB, .inl (cB, 10000, .inl t_f)), (q_mt, .inr (2, [.ref q_i, .ref q_mtb, .ref q_mtl, .int mt_from, .int mt_to, .int mt_len, .int mt_dist])), (q_mtb, .inl (cI, 10000, .inl mt_bef_10)), (q_mtl, .inl (cI, 2048, .inl mt_lat_11)), (q_bw, .inr (1, [.ref q_i, .ref q_t, .ref q_mt])), (q_sw, .inr (5, [.ref q_i, .ref q_t, .ref q_bw])), (q_br, .inr (0, [.ref q_i, .ref q_t, .int br_at, .int br_end, .int br_tb, .long br_len, .int br_fault, .int br_fp])), (q_sr, .inr (4, [.ref q_i, .ref q_t, .ref q_br, .int sr_at, .int sr_most, .int sr_fault, .int sr_fp]))]) (va_runV (As := []) (rest := []) hF (ct_Matches_index (l := l) (D := D) (cB := cB) (cI := cI) (tM := tM) (q_mt := q_mt) (q_i := q_i) (q_iB := q_iB) (q_mtb := q_mtb) (q_mtl := q_mtl) (mt_from := mt_from) (mt_to := mt_to) (mt_len := mt_len) (mt_dist := mt_dist) (i_c := i_c) (i_f := i_f) (mt_bef := mt_bef) (mt_lat := mt_lat) (N := N) (mt_bef' := mt_bef_10) (mt_lat' := mt_lat_11) hm12 _) (cwV 0 hts (tpG_V wd_244 wd_245 wd_246 wd_42 wd_243) rfl rfl rfl ⟨rfl, yd_Matches_index⟩ ⟨Nat.le_of_ble_eq_true rfl, Nat.le_of_ble_eq_true rfl⟩) ⟨tp_blind, va_recv hw.1 hw.2.1 (ci := 2) (q0 := 7) rfl rfl, tp_pre hw [7, 1, 2, 8, 9] rfl rfl⟩ rfl rfl hl.1 rfl (lv_room (Nat.le_of_ble_eq_true rfl)) d_TP_chunks_44 ⟨Nat.le_of_ble_eq_true rfl, Nat.le_of_ble_eq_true rfl⟩) hw [7, 1, 2, 8, 9] [0, 3, 4, 5, 6, 10, 11, 12, 13] [0, 10, 11, 1, 2, 3, 4, 9, 12, 13, 5, 6, 7, 8] rfl rfl rfl (by decide) rfl rfl (fun H locs hw => ?_)
            refine lv_aload_n hx hb d_TP_chunks_47 rfl (lv_at hl 0 rfl) ?_
            refine tp_get (v := .ref q_sw) (C := R_TP) (T := T_TP) hx hb hts fw_TP hown hw 0 rfl rfl 5 (by decide +kernel) (hts _ wd_262) rfl d_TP_chunks_48 ?_
            obtain ⟨t_c_13, t_f_14, hm15, hm⟩ := tp_b2_e hm
            refine tp_callv (wr := [(q_h, .inr (6, [.ref q_i, .ref q_o, .ref q_t, .ref q_mt, .ref q_bw, .ref q_sw, .ref q_br, .ref q_sr, .int h_place])), (q_o, .inr (3, [.ref q_oB, .int o_c])), (q_oB, .inl (cB, 10000, .inl o_f)), (q_br, .inr (0, [.ref q_i, .ref q_t, .int br_at, .int br_end, .int br_tb, .long br_len, .int br_fault, .int br_fp])), (q_sr, .inr (4, [.ref q_i, .ref q_t, .ref q_br, .int sr_at, .int sr_most, .int sr_fault, .int sr_fp]))]) (WS' := [(q_h, .inr (6, [.ref q_i, .ref q_o, .ref q_t, .ref q_mt, .ref q_bw, .ref q_sw, .ref q_br, .ref q_sr, .int h_place])), (q_i, .inr (3, [.ref q_iB, .int i_c])), (q_iB, .inl (cB, 10000, .inl i_f)), (q_o, .inr (3, [.ref q_oB, .int o_c])), (q_oB, .inl (cB, 10000, .inl o_f)), (q_t, .inr (3, [.ref q_tB, .int t_c_13])), (q_tB, .inl (cB, 10000, .inl t_f_14)), (q_mt, .inr (2, [.ref q_i, .ref q_mtb, .ref q_mtl, .int mt_from, .int mt_to, .int mt_len, .int mt_dist])), (q_mtb, .inl (cI, 10000, .inl mt_bef_10)), (q_mtl, .inl (cI, 2048, .inl mt_lat_11)), (q_bw, .inr (1, [.ref q_i, .ref q_t, .ref q_mt])), (q_sw, .inr (5, [.ref q_i, .ref q_t, .ref q_bw])), (q_br, .inr (0, [.ref q_i, .ref q_t, .int br_at, .int br_end, .int br_tb, .long br_len, .int br_fault, .int br_fp])), (q_sr, .inr (4, [.ref q_i, .ref q_t, .ref q_br, .int sr_at, .int sr_most, .int sr_fault, .int sr_fp]))]) (va_runV (As := []) (rest := []) hF (ct_StreamWriter_putMark (l := l) (D := D) (cB := cB) (cI := cI) (tM := tM) (q_sw := q_sw) (q_i := q_i) (q_iB := q_iB) (q_t := q_t) (q_tB := q_tB) (q_bw := q_bw) (q_mt := q_mt) (q_mtb := q_mtb) (q_mtl := q_mtl) (i_c := i_c) (i_f := i_f) (t_c := a_c_8) (t_f := t_f) (mt_from := mt_from) (mt_to := mt_to) (mt_len := mt_len) (mt_dist := mt_dist) (mt_bef := mt_bef_10) (mt_lat := mt_lat_11) (N := N) (t_c' := t_c_13) (t_f' := t_f_14) hm15 _) (cwV 0 hts (tpG_V wd_265 wd_266 wd_267 wd_264 wd_263) rfl rfl rfl ⟨rfl, yd_StreamWriter_putMark⟩ ⟨Nat.le_of_ble_eq_true rfl, Nat.le_of_ble_eq_true rfl⟩) ⟨tp_blind, va_recv hw.1 hw.2.1 (ci := 5) (q0 := 11) rfl rfl, tp_pre hw [11, 1, 2, 5, 6, 10, 7, 8, 9] rfl rfl⟩ rfl rfl hl.1 rfl (lv_room (Nat.le_of_ble_eq_true rfl)) d_TP_chunks_51 ⟨Nat.le_of_ble_eq_true rfl, Nat.le_of_ble_eq_true rfl⟩) hw [11, 1, 2, 5, 6, 10, 7, 8, 9] [0, 3, 4, 12, 13] [0, 6, 7, 1, 2, 8, 9, 11, 12, 13, 10, 5, 3, 4] rfl rfl rfl (by decide) rfl rfl (fun H locs hw => ?_)
            refine lv_iconst (v := (0 : Int32)) hx hb d_TP_chunks_54 (by decide +kernel) ?_
            refine lv_istore (lv' := [(4, .int (0 : Int32)), (0, .ref q_h), (1, .int x1), (2, .int x2), (3, .int x3)]) hx hb d_TP_chunks_55 hl (by decide +kernel) rfl (fun ls hl => ?_)
            exact w_TP_chunks_57 hF2  N _ _ _ _ _ _ _ _ _ _ _ _ _ _ _ _ _ hm hw (lv_sub hl [1, 2, 3, 4, 0] rfl)
          · replace hm := tp_if hc7 hm
            refine lv_iconst (v := (-1 : Int32)) hx hb d_TP_chunks_30 (by decide +kernel) ?_
            obtain ⟨rfl, rfl, rfl, rfl, rfl, rfl, rfl, rfl, rfl, rfl, rfl⟩ := tp_inj11 hm
            exact tp_iret hx hb hr hlocks hw d_TP_chunks_31
end
abbrev rm_TP_unchunk : Room := { frames := 6, cells := 0, slots := 0, locals := 140 }
abbrev ws_TP_unchunk : List Cond := .code y_TP_unchunk c_TP_unchunk 3 (some .int) :: tpG
noncomputable def m_TP_unchunk_28 (N : Nat) (i_c : Int32) (i_f : Nat → Int32) (rec28 : Int32 → Int32 → Int32 → (Nat → Int32) → Int32 → (Nat → Int32) → Int32 → Int32 → Int32 → Int64 → Int32 → Int32 → Int32 → Int32 → Int32 → Int32 → Option (Int32 × Int32 × Int32 × (Nat → Int32) × Int32 × (Nat → Int32) × Int32 × Int32 × Int32 × Int64 × Int32 × Int32 × Int32 × Int32 × Int32 × Int32)) (x2 : Int32) (h_place : Int32) (o_c : Int32) (o_f : Nat → Int32) (t_c : Int32) (t_f : Nat → Int32) (br_at : Int32) (br_end : Int32) (br_tb : Int32) (br_len : Int64) (br_fault : Int32) (br_fp : Int32) (sr_at : Int32) (sr_most : Int32) (sr_fault : Int32) (sr_fp : Int32) : Option (Int32 × Int32 × Int32 × (Nat → Int32) × Int32 × (Nat → Int32) × Int32 × Int32 × Int32 × Int64 × Int32 × Int32 × Int32 × Int32 × Int32 × Int32) :=
  if (10000 : Int32) ≤ x2 then
    tp_b4 (m_TP_endReading sr_fault sr_fp h_place i_c o_c o_f t_c t_f) fun r11 h_place_12 o_c_13 o_f_14 =>
    some (r11, h_place_12, o_c_13, o_f_14, t_c, t_f, br_at, br_end, br_tb, br_len, br_fault, br_fp, sr_at, sr_most, sr_fault, sr_fp)
  else
    tp_b1 (m_StreamReader_hasMore sr_at sr_fault i_c) fun r16 =>
    if r16 = 0 then
      tp_b4 (m_TP_endReading sr_fault sr_fp h_place i_c o_c o_f t_c t_f) fun r19 h_place_20 o_c_21 o_f_22 =>
      some (r19, h_place_20, o_c_21, o_f_22, t_c, t_f, br_at, br_end, br_tb, br_len, br_fault, br_fp, sr_at, sr_most, sr_fault, sr_fp)
    else
      tp_b11 (m_StreamReader_readChunk N sr_at sr_most sr_fault sr_fp i_c i_f t_c t_f br_at br_end br_tb br_len br_fault br_fp) fun sr_at_24 sr_fault_25 sr_fp_26 t_c_27 t_f_28 br_at_29 br_end_30 br_tb_31 br_len_32 br_fault_33 br_fp_34 =>
      rec28 (x2 + (1 : Int32)) h_place o_c o_f t_c_27 t_f_28 br_at_29 br_end_30 br_tb_31 br_len_32 br_fault_33 br_fp_34 sr_at_24 sr_most sr_fault_25 sr_fp_26
noncomputable def m_TP_unchunk (N : Nat) (x1 : Int32) (h_place : Int32) (i_c : Int32) (i_f : Nat → Int32) (o_c : Int32) (o_f : Nat → Int32) (t_c : Int32) (t_f : Nat → Int32) (br_at : Int32) (br_end : Int32) (br_tb : Int32) (br_len : Int64) (br_fault : Int32) (br_fp : Int32) (sr_at : Int32) (sr_most : Int32) (sr_fault : Int32) (sr_fp : Int32) : Option (Int32 × Int32 × Int32 × (Nat → Int32) × Int32 × (Nat → Int32) × Int32 × Int32 × Int32 × Int64 × Int32 × Int32 × Int32 × Int32 × Int32 × Int32) :=
  tp_b1 (m_TP_isNoMost x1) fun r1 =>
  if r1 = 0 then
    tp_b1 (m_Row_shorten (0 : Int32) t_c) fun a_c_4 =>
    tp_b3 (m_StreamReader_begin x1 sr_at sr_most sr_fault) fun sr_at_6 sr_most_7 sr_fault_8 =>
    tp_it16 (m_TP_unchunk_28 N i_c i_f ) N (0 : Int32) h_place o_c o_f a_c_4 t_f br_at br_end br_tb br_len br_fault br_fp sr_at_6 sr_most_7 sr_fault_8 sr_fp
  else
    some ((-20 : Int32), h_place, o_c, o_f, t_c, t_f, br_at, br_end, br_tb, br_len, br_fault, br_fp, sr_at, sr_most, sr_fault, sr_fp)
section
variable {p : Program} {l : Launch} {e : Env} {s : State} {m : MethodId} {args : Array Value} {below : List Frame} {meth : Method} {c : Code} {A : Nat → Prop} {D : va_G} {cB cI : ClassId} {tM : Nat}
set_option maxHeartbeats 4000000 in
set_option maxRecDepth 100000 in
theorem w_TP_unchunk_28 {q_h q_i q_iB q_o q_oB q_t q_tB q_mt q_mtb q_mtl q_bw q_sw q_br q_sr : Nat} {i_c : Int32} {i_f : Nat → Int32} {mt_from : Int32} {mt_to : Int32} {mt_len : Int32} {mt_dist : Int32} {mt_bef : Nat → Int32} {mt_lat : Nat → Int32} {N : Nat} {r : Int32} {h_place' : Int32} {o_c' : Int32} {o_f' : Nat → Int32} {t_c' : Int32} {t_f' : Nat → Int32} {br_at' : Int32} {br_end' : Int32} {br_tb' : Int32} {br_len' : Int64} {br_fault' : Int32} {br_fp' : Int32} {sr_at' : Int32} {sr_most' : Int32} {sr_fault' : Int32} {sr_fp' : Int32} (hF2 : tp_F p m c c_TP_unchunk 3 s args tpG R_TP meth (some .int)) : ∀ (n : Nat), ∀ (x2 : Int32) (h_place : Int32) (o_c : Int32) (o_f : Nat → Int32) (t_c : Int32) (t_f : Nat → Int32) (br_at : Int32) (br_end : Int32) (br_tb : Int32) (br_len : Int64) (br_fault : Int32) (br_fp : Int32) (sr_at : Int32) (sr_most : Int32) (sr_fault : Int32) (sr_fp : Int32) (H : Heap) (locs : List Loc) (ls : Array Slot), tp_it16 (m_TP_unchunk_28 N i_c i_f ) n x2 h_place o_c o_f t_c t_f br_at br_end br_tb br_len br_fault br_fp sr_at sr_most sr_fault sr_fp = some (r, h_place', o_c', o_f', t_c', t_f', br_at', br_end', br_tb', br_len', br_fault', br_fp', sr_at', sr_most', sr_fault', sr_fp') → tp_Wd D (tp_ty cB cI) tM A s H locs [(q_h, .inr (6, [.ref q_i, .ref q_o, .ref q_t, .ref q_mt, .ref q_bw, .ref q_sw, .ref q_br, .ref q_sr, .int h_place])), (q_i, .inr (3, [.ref q_iB, .int i_c])), (q_iB, .inl (cB, 10000, .inl i_f)), (q_o, .inr (3, [.ref q_oB, .int o_c])), (q_oB, .inl (cB, 10000, .inl o_f)), (q_t, .inr (3, [.ref q_tB, .int t_c])), (q_tB, .inl (cB, 10000, .inl t_f)), (q_mt, .inr (2, [.ref q_i, .ref q_mtb, .ref q_mtl, .int mt_from, .int mt_to, .int mt_len, .int mt_dist])), (q_mtb, .inl (cI, 10000, .inl mt_bef)), (q_mtl, .inl (cI, 2048, .inl mt_lat)), (q_bw, .inr (1, [.ref q_i, .ref q_t, .ref q_mt])), (q_sw, .inr (5, [.ref q_i, .ref q_t, .ref q_bw])), (q_br, .inr (0, [.ref q_i, .ref q_t, .int br_at, .int br_end, .int br_tb, .long br_len, .int br_fault, .int br_fp])), (q_sr, .inr (4, [.ref q_i, .ref q_t, .ref q_br, .int sr_at, .int sr_most, .int sr_fault, .int sr_fp]))] → lv_has ls 3 [(0, .ref q_h), (2, .int x2)] → W p l e rm_TP_unchunk s m args below meth c H locs 0 0 (MQ below (tp_Qi D A r [(q_h, .inr (6, [.ref q_i, .ref q_o, .ref q_t, .ref q_mt, .ref q_bw, .ref q_sw, .ref q_br, .ref q_sr, .int h_place'])), (q_i, .inr (3, [.ref q_iB, .int i_c])), (q_iB, .inl (cB, 10000, .inl i_f)), (q_o, .inr (3, [.ref q_oB, .int o_c'])), (q_oB, .inl (cB, 10000, .inl o_f')), (q_t, .inr (3, [.ref q_tB, .int t_c'])), (q_tB, .inl (cB, 10000, .inl t_f')), (q_mt, .inr (2, [.ref q_i, .ref q_mtb, .ref q_mtl, .int mt_from, .int mt_to, .int mt_len, .int mt_dist])), (q_mtb, .inl (cI, 10000, .inl mt_bef)), (q_mtl, .inl (cI, 2048, .inl mt_lat)), (q_bw, .inr (1, [.ref q_i, .ref q_t, .ref q_mt])), (q_sw, .inr (5, [.ref q_i, .ref q_t, .ref q_bw])), (q_br, .inr (0, [.ref q_i, .ref q_t, .int br_at', .int br_end', .int br_tb', .long br_len', .int br_fault', .int br_fp'])), (q_sr, .inr (4, [.ref q_i, .ref q_t, .ref q_br, .int sr_at', .int sr_most', .int sr_fault', .int sr_fp']))]) args s 0 0 A) (F0 m 28 ls []) := by
  obtain ⟨hF, hr, hlocks⟩ := id hF2
  obtain ⟨hx, hb, hml, hown, hts⟩ := id hF
  intro n
  induction n with
  | zero => intro x2 h_place o_c o_f t_c t_f br_at br_end br_tb br_len br_fault br_fp sr_at sr_most sr_fault sr_fp H locs ls hm; exact absurd hm (by simp [tp_it16])
  | succ n ih28 =>
    intro x2 h_place o_c o_f t_c t_f br_at br_end br_tb br_len br_fault br_fp sr_at sr_most sr_fault sr_fp H locs ls hm hw hl
    replace hm : m_TP_unchunk_28 N i_c i_f  (tp_it16 (m_TP_unchunk_28 N i_c i_f ) n) x2 h_place o_c o_f t_c t_f br_at br_end br_tb br_len br_fault br_fp sr_at sr_most sr_fault sr_fp = some (r, h_place', o_c', o_f', t_c', t_f', br_at', br_end', br_tb', br_len', br_fault', br_fp', sr_at', sr_most', sr_fault', sr_fp') := hm
    unfold m_TP_unchunk_28 at hm
    refine lv_iload_n hx hb d_TP_unchunk_28 rfl (lv_at hl 1 rfl) ?_
    refine lv_sipush (v := (10000 : Int32)) hx hb d_TP_unchunk_29 (by decide +kernel) ?_
    refine lv_icmp_ge (tgt := 58) hx hb d_TP_unchunk_32 (by decide +kernel) (fun hc10 => ?_) (fun hc10 => ?_)
    · replace hm := tp_it hc10 hm
      refine lv_aload_n hx hb d_TP_unchunk_58 rfl (lv_at hl 0 rfl) ?_
      refine lv_aload_n hx hb d_TP_unchunk_59 rfl (lv_at hl 0 rfl) ?_
      refine tp_get (v := .ref q_sr) (C := R_TP) (T := T_TP) hx hb hts fw_TP hown hw 0 rfl rfl 7 (by decide +kernel) (hts _ wd_277) rfl d_TP_unchunk_60 ?_
      refine tp_getN (v := .int sr_fault) (C := R_StreamReader) (T := T_StreamReader) hx hb hts fw_StreamReader hown hw 13 rfl rfl 5 (by decide +kernel) nw_14 rfl d_TP_unchunk_63 ?_
      refine lv_aload_n hx hb d_TP_unchunk_66 rfl (lv_at hl 0 rfl) ?_
      refine tp_get (v := .ref q_sr) (C := R_TP) (T := T_TP) hx hb hts fw_TP hown hw 0 rfl rfl 7 (by decide +kernel) (hts _ wd_277) rfl d_TP_unchunk_67 ?_
      refine tp_getN (v := .int sr_fp) (C := R_StreamReader) (T := T_StreamReader) hx hb hts fw_StreamReader hown hw 13 rfl rfl 6 (by decide +kernel) nw_15 rfl d_TP_unchunk_70 ?_
      obtain ⟨r11, h_place_12, o_c_13, o_f_14, hm15, hm⟩ := tp_b4_e hm
      refine tp_calli (wr := []) (WS' := [(q_h, .inr (6, [.ref q_i, .ref q_o, .ref q_t, .ref q_mt, .ref q_bw, .ref q_sw, .ref q_br, .ref q_sr, .int h_place_12])), (q_i, .inr (3, [.ref q_iB, .int i_c])), (q_iB, .inl (cB, 10000, .inl i_f)), (q_o, .inr (3, [.ref q_oB, .int o_c_13])), (q_oB, .inl (cB, 10000, .inl o_f_14)), (q_t, .inr (3, [.ref q_tB, .int t_c])), (q_tB, .inl (cB, 10000, .inl t_f)), (q_mt, .inr (2, [.ref q_i, .ref q_mtb, .ref q_mtl, .int mt_from, .int mt_to, .int mt_len, .int mt_dist])), (q_mtb, .inl (cI, 10000, .inl mt_bef)), (q_mtl, .inl (cI, 2048, .inl mt_lat)), (q_bw, .inr (1, [.ref q_i, .ref q_t, .ref q_mt])), (q_sw, .inr (5, [.ref q_i, .ref q_t, .ref q_bw])), (q_br, .inr (0, [.ref q_i, .ref q_t, .int br_at, .int br_end, .int br_tb, .long br_len, .int br_fault, .int br_fp])), (q_sr, .inr (4, [.ref q_i, .ref q_t, .ref q_br, .int sr_at, .int sr_most, .int sr_fault, .int sr_fp]))]) (va_runV (As := [.int sr_fault, .int sr_fp]) (rest := []) hF (ct_TP_endReading (l := l) (D := D) (cB := cB) (cI := cI) (tM := tM) (q_h := q_h) (q_i := q_i) (q_iB := q_iB) (q_o := q_o) (q_oB := q_oB) (q_t := q_t) (q_tB := q_tB) (q_mt := q_mt) (q_mtb := q_mtb) (q_mtl := q_mtl) (q_bw := q_bw) (q_sw := q_sw) (q_br := q_br) (q_sr := q_sr) (h_place := h_place) (i_c := i_c) (i_f := i_f) (o_c := o_c) (o_f := o_f) (t_c := t_c) (t_f := t_f) (mt_from := mt_from) (mt_to := mt_to) (mt_len := mt_len) (mt_dist := mt_dist) (mt_bef := mt_bef) (mt_lat := mt_lat) (br_at := br_at) (br_end := br_end) (br_tb := br_tb) (br_len := br_len) (br_fault := br_fault) (br_fp := br_fp) (sr_at := sr_at) (sr_most := sr_most) (sr_fault := sr_fault) (sr_fp := sr_fp) (x1 := sr_fault) (x2 := sr_fp) (r := r11) (h_place' := h_place_12) (o_c' := o_c_13) (o_f' := o_f_14) hm15 _) (cwV 2 hts (tpG_V wd_259 wd_260 wd_261 wd_239 wd_258) rfl rfl rfl ⟨rfl, yd_TP_endReading⟩ ⟨Nat.le_of_ble_eq_true rfl, Nat.le_of_ble_eq_true rfl⟩) ⟨tp_blind, va_recv hw.1 hw.2.1 (ci := 6) (q0 := 0) rfl rfl, tp_pre hw [0, 1, 2, 3, 4, 5, 6, 7, 8, 9, 10, 11, 12, 13] rfl rfl⟩ rfl rfl hl.1 rfl (lv_room (Nat.le_of_ble_eq_true rfl)) d_TP_unchunk_73 ⟨Nat.le_of_ble_eq_true rfl, Nat.le_of_ble_eq_true rfl⟩) hw [0, 1, 2, 3, 4, 5, 6, 7, 8, 9, 10, 11, 12, 13] [] [0, 1, 2, 3, 4, 5, 6, 7, 8, 9, 10, 11, 12, 13] rfl rfl rfl (by decide) rfl rfl (fun H locs hw => ?_)
      obtain ⟨rfl, rfl, rfl, rfl, rfl, rfl, rfl, rfl, rfl, rfl, rfl, rfl, rfl, rfl, rfl, rfl⟩ := tp_inj16 hm
      exact tp_iret hx hb hr hlocks hw d_TP_unchunk_76
    · replace hm := tp_if hc10 hm
      refine lv_aload_n hx hb d_TP_unchunk_35 rfl (lv_at hl 0 rfl) ?_
      refine tp_get (v := .ref q_sr) (C := R_TP) (T := T_TP) hx hb hts fw_TP hown hw 0 rfl rfl 7 (by decide +kernel) (hts _ wd_277) rfl d_TP_unchunk_36 ?_
      obtain ⟨r16, hm17, hm⟩ := tp_b1_e hm
      refine tp_calli (wr := [(q_h, .inr (6, [.ref q_i, .ref q_o, .ref q_t, .ref q_mt, .ref q_bw, .ref q_sw, .ref q_br, .ref q_sr, .int h_place])), (q_o, .inr (3, [.ref q_oB, .int o_c])), (q_oB, .inl (cB, 10000, .inl o_f)), (q_mt, .inr (2, [.ref q_i, .ref q_mtb, .ref q_mtl, .int mt_from, .int mt_to, .int mt_len, .int mt_dist])), (q_mtb, .inl (cI, 10000, .inl mt_bef)), (q_mtl, .inl (cI, 2048, .inl mt_lat)), (q_bw, .inr (1, [.ref q_i, .ref q_t, .ref q_mt])), (q_sw, .inr (5, [.ref q_i, .ref q_t, .ref q_bw]))]) (WS' := [(q_h, .inr (6, [.ref q_i, .ref q_o, .ref q_t, .ref q_mt, .ref q_bw, .ref q_sw, .ref q_br, .ref q_sr, .int h_place])), (q_i, .inr (3, [.ref q_iB, .int i_c])), (q_iB, .inl (cB, 10000, .inl i_f)), (q_o, .inr (3, [.ref q_oB, .int o_c])), (q_oB, .inl (cB, 10000, .inl o_f)), (q_t, .inr (3, [.ref q_tB, .int t_c])), (q_tB, .inl (cB, 10000, .inl t_f)), (q_mt, .inr (2, [.ref q_i, .ref q_mtb, .ref q_mtl, .int mt_from, .int mt_to, .int mt_len, .int mt_dist])), (q_mtb, .inl (cI, 10000, .inl mt_bef)), (q_mtl, .inl (cI, 2048, .inl mt_lat)), (q_bw, .inr (1, [.ref q_i, .ref q_t, .ref q_mt])), (q_sw, .inr (5, [.ref q_i, .ref q_t, .ref q_bw])), (q_br, .inr (0, [.ref q_i, .ref q_t, .int br_at, .int br_end, .int br_tb, .long br_len, .int br_fault, .int br_fp])), (q_sr, .inr (4, [.ref q_i, .ref q_t, .ref q_br, .int sr_at, .int sr_most, .int sr_fault, .int sr_fp]))]) (va_runV (As := []) (rest := []) hF (ct_StreamReader_hasMore (l := l) (D := D) (cB := cB) (cI := cI) (tM := tM) (q_sr := q_sr) (q_i := q_i) (q_iB := q_iB) (q_t := q_t) (q_tB := q_tB) (q_br := q_br) (sr_at := sr_at) (sr_most := sr_most) (sr_fault := sr_fault) (sr_fp := sr_fp) (i_c := i_c) (i_f := i_f) (t_c := t_c) (t_f := t_f) (br_at := br_at) (br_end := br_end) (br_tb := br_tb) (br_len := br_len) (br_fault := br_fault) (br_fp := br_fp) (r := r16) hm17 _) (cwV 0 hts (tpG_V wd_283 wd_284 wd_285 wd_189 wd_282) rfl rfl rfl ⟨rfl, yd_StreamReader_hasMore⟩ ⟨Nat.le_of_ble_eq_true rfl, Nat.le_of_ble_eq_true rfl⟩) ⟨tp_blind, va_recv hw.1 hw.2.1 (ci := 4) (q0 := 13) rfl rfl, tp_pre hw [13, 1, 2, 5, 6, 12] rfl rfl⟩ rfl rfl hl.1 rfl (lv_room (Nat.le_of_ble_eq_true rfl)) d_TP_unchunk_39 ⟨Nat.le_of_ble_eq_true rfl, Nat.le_of_ble_eq_true rfl⟩) hw [13, 1, 2, 5, 6, 12] [0, 3, 4, 7, 8, 9, 10, 11] [0, 9, 10, 1, 2, 11, 12, 3, 4, 5, 6, 7, 13, 8] rfl rfl rfl (by decide) rfl rfl (fun H locs hw => ?_)
      refine lv_if_eq (tgt := 58) hx hb d_TP_unchunk_42 (by decide +kernel) (fun hc18 => ?_) (fun hc18 => ?_)
      · replace hm := tp_it hc18 hm
        refine lv_aload_n hx hb d_TP_unchunk_58 rfl (lv_at hl 0 rfl) ?_
        refine lv_aload_n hx hb d_TP_unchunk_59 rfl (lv_at hl 0 rfl) ?_
        refine tp_get (v := .ref q_sr) (C := R_TP) (T := T_TP) hx hb hts fw_TP hown hw 0 rfl rfl 7 (by decide +kernel) (hts _ wd_277) rfl d_TP_unchunk_60 ?_
        refine tp_getN (v := .int sr_fault) (C := R_StreamReader) (T := T_StreamReader) hx hb hts fw_StreamReader hown hw 13 rfl rfl 5 (by decide +kernel) nw_14 rfl d_TP_unchunk_63 ?_
        refine lv_aload_n hx hb d_TP_unchunk_66 rfl (lv_at hl 0 rfl) ?_
        refine tp_get (v := .ref q_sr) (C := R_TP) (T := T_TP) hx hb hts fw_TP hown hw 0 rfl rfl 7 (by decide +kernel) (hts _ wd_277) rfl d_TP_unchunk_67 ?_
        refine tp_getN (v := .int sr_fp) (C := R_StreamReader) (T := T_StreamReader) hx hb hts fw_StreamReader hown hw 13 rfl rfl 6 (by decide +kernel) nw_15 rfl d_TP_unchunk_70 ?_
        obtain ⟨r19, h_place_20, o_c_21, o_f_22, hm23, hm⟩ := tp_b4_e hm
        refine tp_calli (wr := []) (WS' := [(q_h, .inr (6, [.ref q_i, .ref q_o, .ref q_t, .ref q_mt, .ref q_bw, .ref q_sw, .ref q_br, .ref q_sr, .int h_place_20])), (q_i, .inr (3, [.ref q_iB, .int i_c])), (q_iB, .inl (cB, 10000, .inl i_f)), (q_o, .inr (3, [.ref q_oB, .int o_c_21])), (q_oB, .inl (cB, 10000, .inl o_f_22)), (q_t, .inr (3, [.ref q_tB, .int t_c])), (q_tB, .inl (cB, 10000, .inl t_f)), (q_mt, .inr (2, [.ref q_i, .ref q_mtb, .ref q_mtl, .int mt_from, .int mt_to, .int mt_len, .int mt_dist])), (q_mtb, .inl (cI, 10000, .inl mt_bef)), (q_mtl, .inl (cI, 2048, .inl mt_lat)), (q_bw, .inr (1, [.ref q_i, .ref q_t, .ref q_mt])), (q_sw, .inr (5, [.ref q_i, .ref q_t, .ref q_bw])), (q_br, .inr (0, [.ref q_i, .ref q_t, .int br_at, .int br_end, .int br_tb, .long br_len, .int br_fault, .int br_fp])), (q_sr, .inr (4, [.ref q_i, .ref q_t, .ref q_br, .int sr_at, .int sr_most, .int sr_fault, .int sr_fp]))]) (va_runV (As := [.int sr_fault, .int sr_fp]) (rest := []) hF (ct_TP_endReading (l := l) (D := D) (cB := cB) (cI := cI) (tM := tM) (q_h := q_h) (q_i := q_i) (q_iB := q_iB) (q_o := q_o) (q_oB := q_oB) (q_t := q_t) (q_tB := q_tB) (q_mt := q_mt) (q_mtb := q_mtb) (q_mtl := q_mtl) (q_bw := q_bw) (q_sw := q_sw) (q_br := q_br) (q_sr := q_sr) (h_place := h_place) (i_c := i_c) (i_f := i_f) (o_c := o_c) (o_f := o_f) (t_c := t_c) (t_f := t_f) (mt_from := mt_from) (mt_to := mt_to) (mt_len := mt_len) (mt_dist := mt_dist) (mt_bef := mt_bef) (mt_lat := mt_lat) (br_at := br_at) (br_end := br_end) (br_tb := br_tb) (br_len := br_len) (br_fault := br_fault) (br_fp := br_fp) (sr_at := sr_at) (sr_most := sr_most) (sr_fault := sr_fault) (sr_fp := sr_fp) (x1 := sr_fault) (x2 := sr_fp) (r := r19) (h_place' := h_place_20) (o_c' := o_c_21) (o_f' := o_f_22) hm23 _) (cwV 2 hts (tpG_V wd_259 wd_260 wd_261 wd_239 wd_258) rfl rfl rfl ⟨rfl, yd_TP_endReading⟩ ⟨Nat.le_of_ble_eq_true rfl, Nat.le_of_ble_eq_true rfl⟩) ⟨tp_blind, va_recv hw.1 hw.2.1 (ci := 6) (q0 := 0) rfl rfl, tp_pre hw [0, 1, 2, 3, 4, 5, 6, 7, 8, 9, 10, 11, 12, 13] rfl rfl⟩ rfl rfl hl.1 rfl (lv_room (Nat.le_of_ble_eq_true rfl)) d_TP_unchunk_73 ⟨Nat.le_of_ble_eq_true rfl, Nat.le_of_ble_eq_true rfl⟩) hw [0, 1, 2, 3, 4, 5, 6, 7, 8, 9, 10, 11, 12, 13] [] [0, 1, 2, 3, 4, 5, 6, 7, 8, 9, 10, 11, 12, 13] rfl rfl rfl (by decide) rfl rfl (fun H locs hw => ?_)
        obtain ⟨rfl, rfl, rfl, rfl, rfl, rfl, rfl, rfl, rfl, rfl, rfl, rfl, rfl, rfl, rfl, rfl⟩ := tp_inj16 hm
        exact tp_iret hx hb hr hlocks hw d_TP_unchunk_76
      · replace hm := tp_if hc18 hm
        refine lv_aload_n hx hb d_TP_unchunk_45 rfl (lv_at hl 0 rfl) ?_
        refine tp_get (v := .ref q_sr) (C := R_TP) (T := T_TP) hx hb hts fw_TP hown hw 0 rfl rfl 7 (by decide +kernel) (hts _ wd_277) rfl d_TP_unchunk_46 ?_
        obtain ⟨sr_at_24, sr_fault_25, sr_fp_26, t_c_27, t_f_28, br_at_29, br_end_30, br_tb_31, br_len_32, br_fault_33, br_fp_34, hm35, hm⟩ := tp_b11_e hm
        refine tp_callv (wr := [(q_h, .inr (6, [.ref q_i, .ref q_o, .ref q_t, .ref q_mt, .ref q_bw, .ref q_sw, .ref q_br, .ref q_sr, .int h_place])), (q_o, .inr (3, [.ref q_oB, .int o_c])), (q_oB, .inl (cB, 10000, .inl o_f)), (q_mt, .inr (2, [.ref q_i, .ref q_mtb, .ref q_mtl, .int mt_from, .int mt_to, .int mt_len, .int mt_dist])), (q_mtb, .inl (cI, 10000, .inl mt_bef)), (q_mtl, .inl (cI, 2048, .inl mt_lat)), (q_bw, .inr (1, [.ref q_i, .ref q_t, .ref q_mt])), (q_sw, .inr (5, [.ref q_i, .ref q_t, .ref q_bw]))]) (WS' := [(q_h, .inr (6, [.ref q_i, .ref q_o, .ref q_t, .ref q_mt, .ref q_bw, .ref q_sw, .ref q_br, .ref q_sr, .int h_place])), (q_i, .inr (3, [.ref q_iB, .int i_c])), (q_iB, .inl (cB, 10000, .inl i_f)), (q_o, .inr (3, [.ref q_oB, .int o_c])), (q_oB, .inl (cB, 10000, .inl o_f)), (q_t, .inr (3, [.ref q_tB, .int t_c_27])), (q_tB, .inl (cB, 10000, .inl t_f_28)), (q_mt, .inr (2, [.ref q_i, .ref q_mtb, .ref q_mtl, .int mt_from, .int mt_to, .int mt_len, .int mt_dist])), (q_mtb, .inl (cI, 10000, .inl mt_bef)), (q_mtl, .inl (cI, 2048, .inl mt_lat)), (q_bw, .inr (1, [.ref q_i, .ref q_t, .ref q_mt])), (q_sw, .inr (5, [.ref q_i, .ref q_t, .ref q_bw])), (q_br, .inr (0, [.ref q_i, .ref q_t, .int br_at_29, .int br_end_30, .int br_tb_31, .long br_len_32, .int br_fault_33, .int br_fp_34])), (q_sr, .inr (4, [.ref q_i, .ref q_t, .ref q_br, .int sr_at_24, .int sr_most, .int sr_fault_25, .int sr_fp_26]))]) (va_runV (As := []) (rest := []) hF (ct_StreamReader_readChunk (l := l) (D := D) (cB := cB) (cI := cI) (tM := tM) (q_sr := q_sr) (q_i := q_i) (q_iB := q_iB) (q_t := q_t) (q_tB := q_tB) (q_br := q_br) (sr_at := sr_at) (sr_most := sr_most) (sr_fault := sr_fault) (sr_fp := sr_fp) (i_c := i_c) (i_f := i_f) (t_c := t_c) (t_f := t_f) (br_at := br_at) (br_end := br_end) (br_tb := br_tb) (br_len := br_len) (br_fault := br_fault) (br_fp := br_fp) (N := N) (sr_at' := sr_at_24) (sr_fault' := sr_fault_25) (sr_fp' := sr_fp_26) (t_c' := t_c_27) (t_f' := t_f_28) (br_at' := br_at_29) (br_end' := br_end_30) (br_tb' := br_tb_31) (br_len' := br_len_32) (br_fault' := br_fault_33) (br_fp' := br_fp_34) hm35 _) (cwV 0 hts (tpG_V wd_287 wd_288 wd_289 wd_189 wd_286) rfl rfl rfl ⟨rfl, yd_StreamReader_readChunk⟩ ⟨Nat.le_of_ble_eq_true rfl, Nat.le_of_ble_eq_true rfl⟩) ⟨tp_blind, va_recv hw.1 hw.2.1 (ci := 4) (q0 := 13) rfl rfl, tp_pre hw [13, 1, 2, 5, 6, 12] rfl rfl⟩ rfl rfl hl.1 rfl (lv_room (Nat.le_of_ble_eq_true rfl)) d_TP_unchunk_49 ⟨Nat.le_of_ble_eq_true rfl, Nat.le_of_ble_eq_true rfl⟩) hw [13, 1, 2, 5, 6, 12] [0, 3, 4, 7, 8, 9, 10, 11] [0, 9, 10, 1, 2, 11, 12, 3, 4, 5, 6, 7, 13, 8] rfl rfl rfl (by decide) rfl rfl (fun H locs hw => ?_)
        refine lv_iinc (v := (x2 + (1 : Int32))) (lv' := [(2, .int (x2 + (1 : Int32))), (0, .ref q_h)]) hx hb d_TP_unchunk_52 hl (k := 1) rfl rfl (by decide +kernel) rfl (fun ls hl => ?_)
        refine lv_goto (tgt := 28) hx hb d_TP_unchunk_55 (by decide +kernel) ?_
        exact ih28 _ _ _ _ _ _ _ _ _ _ _ _ _ _ _ _ _ _ _ hm hw (lv_sub hl [1, 0] rfl)
set_option maxHeartbeats 4000000 in
set_option maxRecDepth 100000 in
theorem ct_TP_unchunk {q_h q_i q_iB q_o q_oB q_t q_tB q_mt q_mtb q_mtl q_bw q_sw q_br q_sr : Nat} {h_place : Int32} {i_c : Int32} {i_f : Nat → Int32} {o_c : Int32} {o_f : Nat → Int32} {t_c : Int32} {t_f : Nat → Int32} {mt_from : Int32} {mt_to : Int32} {mt_len : Int32} {mt_dist : Int32} {mt_bef : Nat → Int32} {mt_lat : Nat → Int32} {br_at : Int32} {br_end : Int32} {br_tb : Int32} {br_len : Int64} {br_fault : Int32} {br_fp : Int32} {sr_at : Int32} {sr_most : Int32} {sr_fault : Int32} {sr_fp : Int32} {N : Nat} {x1 : Int32} {r : Int32} {h_place' : Int32} {o_c' : Int32} {o_f' : Nat → Int32} {t_c' : Int32} {t_f' : Nat → Int32} {br_at' : Int32} {br_end' : Int32} {br_tb' : Int32} {br_len' : Int64} {br_fault' : Int32} {br_fp' : Int32} {sr_at' : Int32} {sr_most' : Int32} {sr_fault' : Int32} {sr_fp' : Int32} (hm : m_TP_unchunk N x1 h_place i_c i_f o_c o_f t_c t_f br_at br_end br_tb br_len br_fault br_fp sr_at sr_most sr_fault sr_fp = some (r, h_place', o_c', o_f', t_c', t_f', br_at', br_end', br_tb', br_len', br_fault', br_fp', sr_at', sr_most', sr_fault', sr_fp')) (sz : Nat) : tp_Ci l y_TP_unchunk ws_TP_unchunk rm_TP_unchunk D (tp_ty cB cI) tM [.ref q_h, .int x1] [(q_h, .inr (6, [.ref q_i, .ref q_o, .ref q_t, .ref q_mt, .ref q_bw, .ref q_sw, .ref q_br, .ref q_sr, .int h_place])), (q_i, .inr (3, [.ref q_iB, .int i_c])), (q_iB, .inl (cB, 10000, .inl i_f)), (q_o, .inr (3, [.ref q_oB, .int o_c])), (q_oB, .inl (cB, 10000, .inl o_f)), (q_t, .inr (3, [.ref q_tB, .int t_c])), (q_tB, .inl (cB, 10000, .inl t_f)), (q_mt, .inr (2, [.ref q_i, .ref q_mtb, .ref q_mtl, .int mt_from, .int mt_to, .int mt_len, .int mt_dist])), (q_mtb, .inl (cI, 10000, .inl mt_bef)), (q_mtl, .inl (cI, 2048, .inl mt_lat)), (q_bw, .inr (1, [.ref q_i, .ref q_t, .ref q_mt])), (q_sw, .inr (5, [.ref q_i, .ref q_t, .ref q_bw])), (q_br, .inr (0, [.ref q_i, .ref q_t, .int br_at, .int br_end, .int br_tb, .long br_len, .int br_fault, .int br_fp])), (q_sr, .inr (4, [.ref q_i, .ref q_t, .ref q_br, .int sr_at, .int sr_most, .int sr_fault, .int sr_fp]))] sz r [(q_h, .inr (6, [.ref q_i, .ref q_o, .ref q_t, .ref q_mt, .ref q_bw, .ref q_sw, .ref q_br, .ref q_sr, .int h_place'])), (q_i, .inr (3, [.ref q_iB, .int i_c])), (q_iB, .inl (cB, 10000, .inl i_f)), (q_o, .inr (3, [.ref q_oB, .int o_c'])), (q_oB, .inl (cB, 10000, .inl o_f')), (q_t, .inr (3, [.ref q_tB, .int t_c'])), (q_tB, .inl (cB, 10000, .inl t_f')), (q_mt, .inr (2, [.ref q_i, .ref q_mtb, .ref q_mtl, .int mt_from, .int mt_to, .int mt_len, .int mt_dist])), (q_mtb, .inl (cI, 10000, .inl mt_bef)), (q_mtl, .inl (cI, 2048, .inl mt_lat)), (q_bw, .inr (1, [.ref q_i, .ref q_t, .ref q_mt])), (q_sw, .inr (5, [.ref q_i, .ref q_t, .ref q_bw])), (q_br, .inr (0, [.ref q_i, .ref q_t, .int br_at', .int br_end', .int br_tb', .long br_len', .int br_fault', .int br_fp'])), (q_sr, .inr (4, [.ref q_i, .ref q_t, .ref q_br, .int sr_at', .int sr_most', .int sr_fault', .int sr_fp']))] := by
  refine Met.ofW (cc := c_TP_unchunk) (maxL := 3) (ret := (some .int)) (by decide) rfl ?_
  intro p e s m args below meth c s₁ B hml hv
  obtain ⟨rfl, hv⟩ := hv
  have hw := tp_entry hv
  generalize va_A [(q_h, .inr (6, [.ref q_i, .ref q_o, .ref q_t, .ref q_mt, .ref q_bw, .ref q_sw, .ref q_br, .ref q_sr, .int h_place])), (q_i, .inr (3, [.ref q_iB, .int i_c])), (q_iB, .inl (cB, 10000, .inl i_f)), (q_o, .inr (3, [.ref q_oB, .int o_c])), (q_oB, .inl (cB, 10000, .inl o_f)), (q_t, .inr (3, [.ref q_tB, .int t_c])), (q_tB, .inl (cB, 10000, .inl t_f)), (q_mt, .inr (2, [.ref q_i, .ref q_mtb, .ref q_mtl, .int mt_from, .int mt_to, .int mt_len, .int mt_dist])), (q_mtb, .inl (cI, 10000, .inl mt_bef)), (q_mtl, .inl (cI, 2048, .inl mt_lat)), (q_bw, .inr (1, [.ref q_i, .ref q_t, .ref q_mt])), (q_sw, .inr (5, [.ref q_i, .ref q_t, .ref q_bw])), (q_br, .inr (0, [.ref q_i, .ref q_t, .int br_at, .int br_end, .int br_tb, .long br_len, .int br_fault, .int br_fp])), (q_sr, .inr (4, [.ref q_i, .ref q_t, .ref q_br, .int sr_at, .int sr_most, .int sr_fault, .int sr_fp]))] sz = A at hw ⊢
  have hx := B.exec
  have hb := B.bytes
  have hr := B.returns
  have hts0 := atoms_spec (ws := ws_TP_unchunk) B.pre
  have hts := fun w h => hts0 w (List.mem_cons_of_mem _ h)
  have hown : s.vm.findClass R_TP = some m.cls := findClass_of_methodNamed B.named
  have hlocks := B.notSynchronized
  have hF : CallFix p m c c_TP_unchunk 3 s _ tpG R_TP := ⟨hx, hb, hml, hown, hts⟩
  have hF2 : tp_F p m c c_TP_unchunk 3 s _ tpG R_TP meth (some .int) := ⟨hF, hr, hlocks⟩
  have hl := lv_entry ([.ref q_h, .int x1]) (n := 3) (Nat.le_of_ble_eq_true rfl)
  rw [lg_entry_eq]
  generalize (lg_sl ([.ref q_h, .int x1]) ++ List.replicate (3 - (lg_sl ([.ref q_h, .int x1])).length) Slot.unset).toArray = ls at hl ⊢
  replace hl : lv_has ls 3 [(0, .ref q_h), (1, .int x1)] := hl
  unfold m_TP_unchunk at hm
  refine lv_iload_n hx hb d_TP_unchunk_0 rfl (lv_at hl 1 rfl) ?_
  obtain ⟨r1, hm2, hm⟩ := tp_b1_e hm
  refine tp_calli (wr := [(q_h, .inr (6, [.ref q_i, .ref q_o, .ref q_t, .ref q_mt, .ref q_bw, .ref q_sw, .ref q_br, .ref q_sr, .int h_place])), (q_i, .inr (3, [.ref q_iB, .int i_c])), (q_iB, .inl (cB, 10000, .inl i_f)), (q_o, .inr (3, [.ref q_oB, .int o_c])), (q_oB, .inl (cB, 10000, .inl o_f)), (q_t, .inr (3, [.ref q_tB, .int t_c])), (q_tB, .inl (cB, 10000, .inl t_f)), (q_mt, .inr (2, [.ref q_i, .ref q_mtb, .ref q_mtl, .int mt_from, .int mt_to, .int mt_len, .int mt_dist])), (q_mtb, .inl (cI, 10000, .inl mt_bef)), (q_mtl, .inl (cI, 2048, .inl mt_lat)), (q_bw, .inr (1, [.ref q_i, .ref q_t, .ref q_mt])), (q_sw, .inr (5, [.ref q_i, .ref q_t, .ref q_bw])), (q_br, .inr (0, [.ref q_i, .ref q_t, .int br_at, .int br_end, .int br_tb, .long br_len, .int br_fault, .int br_fp])), (q_sr, .inr (4, [.ref q_i, .ref q_t, .ref q_br, .int sr_at, .int sr_most, .int sr_fault, .int sr_fp]))]) (WS' := [(q_h, .inr (6, [.ref q_i, .ref q_o, .ref q_t, .ref q_mt, .ref q_bw, .ref q_sw, .ref q_br, .ref q_sr, .int h_place])), (q_i, .inr (3, [.ref q_iB, .int i_c])), (q_iB, .inl (cB, 10000, .inl i_f)), (q_o, .inr (3, [.ref q_oB, .int o_c])), (q_oB, .inl (cB, 10000, .inl o_f)), (q_t, .inr (3, [.ref q_tB, .int t_c])), (q_tB, .inl (cB, 10000, .inl t_f)), (q_mt, .inr (2, [.ref q_i, .ref q_mtb, .ref q_mtl, .int mt_from, .int mt_to, .int mt_len, .int mt_dist])), (q_mtb, .inl (cI, 10000, .inl mt_bef)), (q_mtl, .inl (cI, 2048, .inl mt_lat)), (q_bw, .inr (1, [.ref q_i, .ref q_t, .ref q_mt])), (q_sw, .inr (5, [.ref q_i, .ref q_t, .ref q_bw])), (q_br, .inr (0, [.ref q_i, .ref q_t, .int br_at, .int br_end, .int br_tb, .long br_len, .int br_fault, .int br_fp])), (q_sr, .inr (4, [.ref q_i, .ref q_t, .ref q_br, .int sr_at, .int sr_most, .int sr_fault, .int sr_fp]))]) (va_runS (As := [.int x1]) (rest := []) hF (ct_TP_isNoMost (l := l) (D := D) (cB := cB) (cI := cI) (tM := tM) (x0 := x1) (r := r1) hm2 _) (va_cwS 1 hts (tpG_S wd_254 wd_255 wd_239 wd_253) rfl rfl rfl yd_TP_isNoMost ⟨Nat.le_of_ble_eq_true rfl, Nat.le_of_ble_eq_true rfl⟩) ⟨tp_blind, tp_pre hw [] rfl rfl⟩ rfl rfl hl.1 rfl (lv_room (Nat.le_of_ble_eq_true rfl)) d_TP_unchunk_1 ⟨Nat.le_of_ble_eq_true rfl, Nat.le_of_ble_eq_true rfl⟩) hw [] [0, 1, 2, 3, 4, 5, 6, 7, 8, 9, 10, 11, 12, 13] [0, 1, 2, 3, 4, 5, 6, 7, 8, 9, 10, 11, 12, 13] rfl rfl rfl (by decide) rfl rfl (fun H locs hw => ?_)
  refine lv_if_eq (tgt := 10) hx hb d_TP_unchunk_4 (by decide +kernel) (fun hc3 => ?_) (fun hc3 => ?_)
  · replace hm := tp_it hc3 hm
    refine lv_aload_n hx hb d_TP_unchunk_10 rfl (lv_at hl 0 rfl) ?_
    refine tp_get (v := .ref q_t) (C := R_TP) (T := T_TP) hx hb hts fw_TP hown hw 0 rfl rfl 2 (by decide +kernel) (hts _ wd_226) rfl d_TP_unchunk_11 ?_
    refine lv_iconst (v := (0 : Int32)) hx hb d_TP_unchunk_14 (by decide +kernel) ?_
    obtain ⟨a_c_4, hm5, hm⟩ := tp_b1_e hm
    refine tp_callv (wr := [(q_h, .inr (6, [.ref q_i, .ref q_o, .ref q_t, .ref q_mt, .ref q_bw, .ref q_sw, .ref q_br, .ref q_sr, .int h_place])), (q_i, .inr (3, [.ref q_iB, .int i_c])), (q_iB, .inl (cB, 10000, .inl i_f)), (q_o, .inr (3, [.ref q_oB, .int o_c])), (q_oB, .inl (cB, 10000, .inl o_f)), (q_mt, .inr (2, [.ref q_i, .ref q_mtb, .ref q_mtl, .int mt_from, .int mt_to, .int mt_len, .int mt_dist])), (q_mtb, .inl (cI, 10000, .inl mt_bef)), (q_mtl, .inl (cI, 2048, .inl mt_lat)), (q_bw, .inr (1, [.ref q_i, .ref q_t, .ref q_mt])), (q_sw, .inr (5, [.ref q_i, .ref q_t, .ref q_bw])), (q_br, .inr (0, [.ref q_i, .ref q_t, .int br_at, .int br_end, .int br_tb, .long br_len, .int br_fault, .int br_fp])), (q_sr, .inr (4, [.ref q_i, .ref q_t, .ref q_br, .int sr_at, .int sr_most, .int sr_fault, .int sr_fp]))]) (WS' := [(q_h, .inr (6, [.ref q_i, .ref q_o, .ref q_t, .ref q_mt, .ref q_bw, .ref q_sw, .ref q_br, .ref q_sr, .int h_place])), (q_i, .inr (3, [.ref q_iB, .int i_c])), (q_iB, .inl (cB, 10000, .inl i_f)), (q_o, .inr (3, [.ref q_oB, .int o_c])), (q_oB, .inl (cB, 10000, .inl o_f)), (q_t, .inr (3, [.ref q_tB, .int a_c_4])), (q_tB, .inl (cB, 10000, .inl t_f)), (q_mt, .inr (2, [.ref q_i, .ref q_mtb, .ref q_mtl, .int mt_from, .int mt_to, .int mt_len, .int mt_dist])), (q_mtb, .inl (cI, 10000, .inl mt_bef)), (q_mtl, .inl (cI, 2048, .inl mt_lat)), (q_bw, .inr (1, [.ref q_i, .ref q_t, .ref q_mt])), (q_sw, .inr (5, [.ref q_i, .ref q_t, .ref q_bw])), (q_br, .inr (0, [.ref q_i, .ref q_t, .int br_at, .int br_end, .int br_tb, .long br_len, .int br_fault, .int br_fp])), (q_sr, .inr (4, [.ref q_i, .ref q_t, .ref q_br, .int sr_at, .int sr_most, .int sr_fault, .int sr_fp]))]) (va_runV (As := [.int (0 : Int32)]) (rest := []) hF (ct_Row_shorten (l := l) (D := D) (cB := cB) (cI := cI) (tM := tM) (q_a := q_t) (q_aB := q_tB) (a_c := t_c) (a_f := t_f) (x1 := (0 : Int32)) (a_c' := a_c_4) hm5 _) (cwV 1 hts (tpG_V wd_237 wd_127 wd_128 wd_3 wd_125) rfl rfl rfl ⟨rfl, yd_Row_shorten⟩ ⟨Nat.le_of_ble_eq_true rfl, Nat.le_of_ble_eq_true rfl⟩) ⟨tp_blind, va_recv hw.1 hw.2.1 (ci := 3) (q0 := 5) rfl rfl, tp_pre hw [5, 6] rfl rfl⟩ rfl rfl hl.1 rfl (lv_room (Nat.le_of_ble_eq_true rfl)) d_TP_unchunk_15 ⟨Nat.le_of_ble_eq_true rfl, Nat.le_of_ble_eq_true rfl⟩) hw [5, 6] [0, 1, 2, 3, 4, 7, 8, 9, 10, 11, 12, 13] [0, 1, 2, 3, 4, 12, 13, 5, 6, 7, 8, 9, 10, 11] rfl rfl rfl (by decide) rfl rfl (fun H locs hw => ?_)
    refine lv_aload_n hx hb d_TP_unchunk_18 rfl (lv_at hl 0 rfl) ?_
    refine tp_get (v := .ref q_sr) (C := R_TP) (T := T_TP) hx hb hts fw_TP hown hw 0 rfl rfl 7 (by decide +kernel) (hts _ wd_277) rfl d_TP_unchunk_19 ?_
    refine lv_iload_n hx hb d_TP_unchunk_22 rfl (lv_at hl 1 rfl) ?_
    obtain ⟨sr_at_6, sr_most_7, sr_fault_8, hm9, hm⟩ := tp_b3_e hm
    refine tp_callv (wr := [(q_h, .inr (6, [.ref q_i, .ref q_o, .ref q_t, .ref q_mt, .ref q_bw, .ref q_sw, .ref q_br, .ref q_sr, .int h_place])), (q_o, .inr (3, [.ref q_oB, .int o_c])), (q_oB, .inl (cB, 10000, .inl o_f)), (q_mt, .inr (2, [.ref q_i, .ref q_mtb, .ref q_mtl, .int mt_from, .int mt_to, .int mt_len, .int mt_dist])), (q_mtb, .inl (cI, 10000, .inl mt_bef)), (q_mtl, .inl (cI, 2048, .inl mt_lat)), (q_bw, .inr (1, [.ref q_i, .ref q_t, .ref q_mt])), (q_sw, .inr (5, [.ref q_i, .ref q_t, .ref q_bw]))]) (WS' := [(q_h, .inr (6, [.ref q_i, .ref q_o, .ref q_t, .ref q_mt, .ref q_bw, .ref q_sw, .ref q_br, .ref q_sr, .int h_place])), (q_i, .inr (3, [.ref q_iB, .int i_c])), (q_iB, .inl (cB, 10000, .inl i_f)), (q_o, .inr (3, [.ref q_oB, .int o_c])), (q_oB, .inl (cB, 10000, .inl o_f)), (q_t, .inr (3, [.ref q_tB, .int a_c_4])), (q_tB, .inl (cB, 10000, .inl t_f)), (q_mt, .inr (2, [.ref q_i, .ref q_mtb, .ref q_mtl, .int mt_from, .int mt_to, .int mt_len, .int mt_dist])), (q_mtb, .inl (cI, 10000, .inl mt_bef)), (q_mtl, .inl (cI, 2048, .inl mt_lat)), (q_bw, .inr (1, [.ref q_i, .ref q_t, .ref q_mt])), (q_sw, .inr (5, [.ref q_i, .ref q_t, .ref q_bw])), (q_br, .inr (0, [.ref q_i, .ref q_t, .int br_at, .int br_end, .int br_tb, .long br_len, .int br_fault, .int br_fp])), (q_sr, .inr (4, [.ref q_i, .ref q_t, .ref q_br, .int sr_at_6, .int sr_most_7, .int sr_fault_8, .int sr_fp]))]) (va_runV (As := [.int x1]) (rest := []) hF (ct_StreamReader_begin (l := l) (D := D) (cB := cB) (cI := cI) (tM := tM) (q_sr := q_sr) (q_i := q_i) (q_iB := q_iB) (q_t := q_t) (q_tB := q_tB) (q_br := q_br) (sr_at := sr_at) (sr_most := sr_most) (sr_fault := sr_fault) (sr_fp := sr_fp) (i_c := i_c) (i_f := i_f) (t_c := a_c_4) (t_f := t_f) (br_at := br_at) (br_end := br_end) (br_tb := br_tb) (br_len := br_len) (br_fault := br_fault) (br_fp := br_fp) (x1 := x1) (sr_at' := sr_at_6) (sr_most' := sr_most_7) (sr_fault' := sr_fault_8) hm9 _) (cwV 1 hts (tpG_V wd_279 wd_280 wd_281 wd_189 wd_278) rfl rfl rfl ⟨rfl, yd_StreamReader_begin⟩ ⟨Nat.le_of_ble_eq_true rfl, Nat.le_of_ble_eq_true rfl⟩) ⟨tp_blind, va_recv hw.1 hw.2.1 (ci := 4) (q0 := 13) rfl rfl, tp_pre hw [13, 1, 2, 5, 6, 12] rfl rfl⟩ rfl rfl hl.1 rfl (lv_room (Nat.le_of_ble_eq_true rfl)) d_TP_unchunk_23 ⟨Nat.le_of_ble_eq_true rfl, Nat.le_of_ble_eq_true rfl⟩) hw [13, 1, 2, 5, 6, 12] [0, 3, 4, 7, 8, 9, 10, 11] [0, 9, 10, 1, 2, 11, 12, 3, 4, 5, 6, 7, 13, 8] rfl rfl rfl (by decide) rfl rfl (fun H locs hw => ?_)
    refine lv_iconst (v := (0 : Int32)) hx hb d_TP_unchunk_26 (by decide +kernel) ?_
    refine lv_istore_n (lv' := [(2, .int (0 : Int32)), (0, .ref q_h), (1, .int x1)]) hx hb d_TP_unchunk_27 rfl hl (by decide +kernel) rfl (fun ls hl => ?_)
    exact w_TP_unchunk_28 hF2  N _ _ _ _ _ _ _ _ _ _ _ _ _ _ _ _ _ _ _ hm hw (lv_sub hl [1, 0] rfl)
  · replace hm := tp_if hc3 hm
    refine lv_bipush (v := (-20 : Int32)) hx hb d_TP_unchunk_7 (by decide +kernel) ?_
    obtain ⟨rfl, rfl, rfl, rfl, rfl, rfl, rfl, rfl, rfl, rfl, rfl, rfl, rfl, rfl, rfl, rfl⟩ := tp_inj16 hm
    exact tp_iret hx hb hr hlocks hw d_TP_unchunk_9
end
abbrev rm_TP_place : Room := { frames := 0, cells := 0, slots := 0, locals := 0 }
abbrev ws_TP_place : List Cond := .code y_TP_place c_TP_place 1 (some .int) :: tpG
noncomputable def m_TP_place (h_place : Int32) : Option (Int32) :=
  some (h_place)
section
variable {p : Program} {l : Launch} {e : Env} {s : State} {m : MethodId} {args : Array Value} {below : List Frame} {meth : Method} {c : Code} {A : Nat → Prop} {D : va_G} {cB cI : ClassId} {tM : Nat}
set_option maxHeartbeats 4000000 in
set_option maxRecDepth 100000 in
theorem ct_TP_place {q_h q_i q_iB q_o q_oB q_t q_tB q_mt q_mtb q_mtl q_bw q_sw q_br q_sr : Nat} {h_place : Int32} {i_c : Int32} {i_f : Nat → Int32} {o_c : Int32} {o_f : Nat → Int32} {t_c : Int32} {t_f : Nat → Int32} {mt_from : Int32} {mt_to : Int32} {mt_len : Int32} {mt_dist : Int32} {mt_bef : Nat → Int32} {mt_lat : Nat → Int32} {br_at : Int32} {br_end : Int32} {br_tb : Int32} {br_len : Int64} {br_fault : Int32} {br_fp : Int32} {sr_at : Int32} {sr_most : Int32} {sr_fault : Int32} {sr_fp : Int32} {r : Int32} (hm : m_TP_place h_place = some (r)) (sz : Nat) : tp_Ci l y_TP_place ws_TP_place rm_TP_place D (tp_ty cB cI) tM [.ref q_h] [(q_h, .inr (6, [.ref q_i, .ref q_o, .ref q_t, .ref q_mt, .ref q_bw, .ref q_sw, .ref q_br, .ref q_sr, .int h_place])), (q_i, .inr (3, [.ref q_iB, .int i_c])), (q_iB, .inl (cB, 10000, .inl i_f)), (q_o, .inr (3, [.ref q_oB, .int o_c])), (q_oB, .inl (cB, 10000, .inl o_f)), (q_t, .inr (3, [.ref q_tB, .int t_c])), (q_tB, .inl (cB, 10000, .inl t_f)), (q_mt, .inr (2, [.ref q_i, .ref q_mtb, .ref q_mtl, .int mt_from, .int mt_to, .int mt_len, .int mt_dist])), (q_mtb, .inl (cI, 10000, .inl mt_bef)), (q_mtl, .inl (cI, 2048, .inl mt_lat)), (q_bw, .inr (1, [.ref q_i, .ref q_t, .ref q_mt])), (q_sw, .inr (5, [.ref q_i, .ref q_t, .ref q_bw])), (q_br, .inr (0, [.ref q_i, .ref q_t, .int br_at, .int br_end, .int br_tb, .long br_len, .int br_fault, .int br_fp])), (q_sr, .inr (4, [.ref q_i, .ref q_t, .ref q_br, .int sr_at, .int sr_most, .int sr_fault, .int sr_fp]))] sz r [(q_h, .inr (6, [.ref q_i, .ref q_o, .ref q_t, .ref q_mt, .ref q_bw, .ref q_sw, .ref q_br, .ref q_sr, .int h_place])), (q_i, .inr (3, [.ref q_iB, .int i_c])), (q_iB, .inl (cB, 10000, .inl i_f)), (q_o, .inr (3, [.ref q_oB, .int o_c])), (q_oB, .inl (cB, 10000, .inl o_f)), (q_t, .inr (3, [.ref q_tB, .int t_c])), (q_tB, .inl (cB, 10000, .inl t_f)), (q_mt, .inr (2, [.ref q_i, .ref q_mtb, .ref q_mtl, .int mt_from, .int mt_to, .int mt_len, .int mt_dist])), (q_mtb, .inl (cI, 10000, .inl mt_bef)), (q_mtl, .inl (cI, 2048, .inl mt_lat)), (q_bw, .inr (1, [.ref q_i, .ref q_t, .ref q_mt])), (q_sw, .inr (5, [.ref q_i, .ref q_t, .ref q_bw])), (q_br, .inr (0, [.ref q_i, .ref q_t, .int br_at, .int br_end, .int br_tb, .long br_len, .int br_fault, .int br_fp])), (q_sr, .inr (4, [.ref q_i, .ref q_t, .ref q_br, .int sr_at, .int sr_most, .int sr_fault, .int sr_fp]))] := by
  refine Met.ofW (cc := c_TP_place) (maxL := 1) (ret := (some .int)) (by decide) rfl ?_
  intro p e s m args below meth c s₁ B hml hv
  obtain ⟨rfl, hv⟩ := hv
  have hw := tp_entry hv
  generalize va_A [(q_h, .inr (6, [.ref q_i, .ref q_o, .ref q_t, .ref q_mt, .ref q_bw, .ref q_sw, .ref q_br, .ref q_sr, .int h_place])), (q_i, .inr (3, [.ref q_iB, .int i_c])), (q_iB, .inl (cB, 10000, .inl i_f)), (q_o, .inr (3, [.ref q_oB, .int o_c])), (q_oB, .inl (cB, 10000, .inl o_f)), (q_t, .inr (3, [.ref q_tB, .int t_c])), (q_tB, .inl (cB, 10000, .inl t_f)), (q_mt, .inr (2, [.ref q_i, .ref q_mtb, .ref q_mtl, .int mt_from, .int mt_to, .int mt_len, .int mt_dist])), (q_mtb, .inl (cI, 10000, .inl mt_bef)), (q_mtl, .inl (cI, 2048, .inl mt_lat)), (q_bw, .inr (1, [.ref q_i, .ref q_t, .ref q_mt])), (q_sw, .inr (5, [.ref q_i, .ref q_t, .ref q_bw])), (q_br, .inr (0, [.ref q_i, .ref q_t, .int br_at, .int br_end, .int br_tb, .long br_len, .int br_fault, .int br_fp])), (q_sr, .inr (4, [.ref q_i, .ref q_t, .ref q_br, .int sr_at, .int sr_most, .int sr_fault, .int sr_fp]))] sz = A at hw ⊢
  have hx := B.exec
  have hb := B.bytes
  have hr := B.returns
  have hts0 := atoms_spec (ws := ws_TP_place) B.pre
  have hts := fun w h => hts0 w (List.mem_cons_of_mem _ h)
  have hown : s.vm.findClass R_TP = some m.cls := findClass_of_methodNamed B.named
  have hlocks := B.notSynchronized
  have hF : CallFix p m c c_TP_place 1 s _ tpG R_TP := ⟨hx, hb, hml, hown, hts⟩
  have hF2 : tp_F p m c c_TP_place 1 s _ tpG R_TP meth (some .int) := ⟨hF, hr, hlocks⟩
  have hl := lv_entry ([.ref q_h]) (n := 1) (Nat.le_of_ble_eq_true rfl)
  rw [lg_entry_eq]
  generalize (lg_sl ([.ref q_h]) ++ List.replicate (1 - (lg_sl ([.ref q_h])).length) Slot.unset).toArray = ls at hl ⊢
  replace hl : lv_has ls 1 [(0, .ref q_h)] := hl
  unfold m_TP_place at hm
  refine lv_aload_n hx hb d_TP_place_0 rfl (lv_at hl 0 rfl) ?_
  refine tp_get (v := .int h_place) (C := R_TP) (T := T_TP) hx hb hts fw_TP hown hw 0 rfl rfl 8 (by decide +kernel) (hts _ wd_234) rfl d_TP_place_1 ?_
  obtain rfl := tp_inj1 hm
  exact tp_iret hx hb hr hlocks hw d_TP_place_4
end
abbrev rm_TP_sum : Room := { frames := 2, cells := 0, slots := 0, locals := 47 }
abbrev ws_TP_sum : List Cond := .code y_TP_sum c_TP_sum 1 (some .int) :: tpG
noncomputable def m_TP_sum (N : Nat) (i_c : Int32) (i_f : Nat → Int32) : Option (Int32) :=
  tp_b1 (m_Sums_sumOf N (0 : Int32) i_c i_c i_f) fun r1 =>
  some (r1)
section
variable {p : Program} {l : Launch} {e : Env} {s : State} {m : MethodId} {args : Array Value} {below : List Frame} {meth : Method} {c : Code} {A : Nat → Prop} {D : va_G} {cB cI : ClassId} {tM : Nat}
set_option maxHeartbeats 4000000 in
set_option maxRecDepth 100000 in
theorem ct_TP_sum {q_h q_i q_iB q_o q_oB q_t q_tB q_mt q_mtb q_mtl q_bw q_sw q_br q_sr : Nat} {h_place : Int32} {i_c : Int32} {i_f : Nat → Int32} {o_c : Int32} {o_f : Nat → Int32} {t_c : Int32} {t_f : Nat → Int32} {mt_from : Int32} {mt_to : Int32} {mt_len : Int32} {mt_dist : Int32} {mt_bef : Nat → Int32} {mt_lat : Nat → Int32} {br_at : Int32} {br_end : Int32} {br_tb : Int32} {br_len : Int64} {br_fault : Int32} {br_fp : Int32} {sr_at : Int32} {sr_most : Int32} {sr_fault : Int32} {sr_fp : Int32} {N : Nat} {r : Int32} (hm : m_TP_sum N i_c i_f = some (r)) (sz : Nat) : tp_Ci l y_TP_sum ws_TP_sum rm_TP_sum D (tp_ty cB cI) tM [.ref q_h] [(q_h, .inr (6, [.ref q_i, .ref q_o, .ref q_t, .ref q_mt, .ref q_bw, .ref q_sw, .ref q_br, .ref q_sr, .int h_place])), (q_i, .inr (3, [.ref q_iB, .int i_c])), (q_iB, .inl (cB, 10000, .inl i_f)), (q_o, .inr (3, [.ref q_oB, .int o_c])), (q_oB, .inl (cB, 10000, .inl o_f)), (q_t, .inr (3, [.ref q_tB, .int t_c])), (q_tB, .inl (cB, 10000, .inl t_f)), (q_mt, .inr (2, [.ref q_i, .ref q_mtb, .ref q_mtl, .int mt_from, .int mt_to, .int mt_len, .int mt_dist])), (q_mtb, .inl (cI, 10000, .inl mt_bef)), (q_mtl, .inl (cI, 2048, .inl mt_lat)), (q_bw, .inr (1, [.ref q_i, .ref q_t, .ref q_mt])), (q_sw, .inr (5, [.ref q_i, .ref q_t, .ref q_bw])), (q_br, .inr (0, [.ref q_i, .ref q_t, .int br_at, .int br_end, .int br_tb, .long br_len, .int br_fault, .int br_fp])), (q_sr, .inr (4, [.ref q_i, .ref q_t, .ref q_br, .int sr_at, .int sr_most, .int sr_fault, .int sr_fp]))] sz r [(q_h, .inr (6, [.ref q_i, .ref q_o, .ref q_t, .ref q_mt, .ref q_bw, .ref q_sw, .ref q_br, .ref q_sr, .int h_place])), (q_i, .inr (3, [.ref q_iB, .int i_c])), (q_iB, .inl (cB, 10000, .inl i_f)), (q_o, .inr (3, [.ref q_oB, .int o_c])), (q_oB, .inl (cB, 10000, .inl o_f)), (q_t, .inr (3, [.ref q_tB, .int t_c])), (q_tB, .inl (cB, 10000, .inl t_f)), (q_mt, .inr (2, [.ref q_i, .ref q_mtb, .ref q_mtl, .int mt_from, .int mt_to, .int mt_len, .int mt_dist])), (q_mtb, .inl (cI, 10000, .inl mt_bef)), (q_mtl, .inl (cI, 2048, .inl mt_lat)), (q_bw, .inr (1, [.ref q_i, .ref q_t, .ref q_mt])), (q_sw, .inr (5, [.ref q_i, .ref q_t, .ref q_bw])), (q_br, .inr (0, [.ref q_i, .ref q_t, .int br_at, .int br_end, .int br_tb, .long br_len, .int br_fault, .int br_fp])), (q_sr, .inr (4, [.ref q_i, .ref q_t, .ref q_br, .int sr_at, .int sr_most, .int sr_fault, .int sr_fp]))] := by
  refine Met.ofW (cc := c_TP_sum) (maxL := 1) (ret := (some .int)) (by decide) rfl ?_
  intro p e s m args below meth c s₁ B hml hv
  obtain ⟨rfl, hv⟩ := hv
  have hw := tp_entry hv
  generalize va_A [(q_h, .inr (6, [.ref q_i, .ref q_o, .ref q_t, .ref q_mt, .ref q_bw, .ref q_sw, .ref q_br, .ref q_sr, .int h_place])), (q_i, .inr (3, [.ref q_iB, .int i_c])), (q_iB, .inl (cB, 10000, .inl i_f)), (q_o, .inr (3, [.ref q_oB, .int o_c])), (q_oB, .inl (cB, 10000, .inl o_f)), (q_t, .inr (3, [.ref q_tB, .int t_c])), (q_tB, .inl (cB, 10000, .inl t_f)), (q_mt, .inr (2, [.ref q_i, .ref q_mtb, .ref q_mtl, .int mt_from, .int mt_to, .int mt_len, .int mt_dist])), (q_mtb, .inl (cI, 10000, .inl mt_bef)), (q_mtl, .inl (cI, 2048, .inl mt_lat)), (q_bw, .inr (1, [.ref q_i, .ref q_t, .ref q_mt])), (q_sw, .inr (5, [.ref q_i, .ref q_t, .ref q_bw])), (q_br, .inr (0, [.ref q_i, .ref q_t, .int br_at, .int br_end, .int br_tb, .long br_len, .int br_fault, .int br_fp])), (q_sr, .inr (4, [.ref q_i, .ref q_t, .ref q_br, .int sr_at, .int sr_most, .int sr_fault, .int sr_fp]))] sz = A at hw ⊢
  have hx := B.exec
  have hb := B.bytes
  have hr := B.returns
  have hts0 := atoms_spec (ws := ws_TP_sum) B.pre
  have hts := fun w h => hts0 w (List.mem_cons_of_mem _ h)
  have hown : s.vm.findClass R_TP = some m.cls := findClass_of_methodNamed B.named
  have hlocks := B.notSynchronized
  have hF : CallFix p m c c_TP_sum 1 s _ tpG R_TP := ⟨hx, hb, hml, hown, hts⟩
  have hF2 : tp_F p m c c_TP_sum 1 s _ tpG R_TP meth (some .int) := ⟨hF, hr, hlocks⟩
  have hl := lv_entry ([.ref q_h]) (n := 1) (Nat.le_of_ble_eq_true rfl)
  rw [lg_entry_eq]
  generalize (lg_sl ([.ref q_h]) ++ List.replicate (1 - (lg_sl ([.ref q_h])).length) Slot.unset).toArray = ls at hl ⊢
  replace hl : lv_has ls 1 [(0, .ref q_h)] := hl
  unfold m_TP_sum at hm
  refine lv_aload_n hx hb d_TP_sum_0 rfl (lv_at hl 0 rfl) ?_
  refine tp_get (v := .ref q_i) (C := R_TP) (T := T_TP) hx hb hts fw_TP hown hw 0 rfl rfl 0 (by decide +kernel) (hts _ wd_233) rfl d_TP_sum_1 ?_
  refine lv_iconst (v := (0 : Int32)) hx hb d_TP_sum_4 (by decide +kernel) ?_
  refine lv_aload_n hx hb d_TP_sum_5 rfl (lv_at hl 0 rfl) ?_
  refine tp_get (v := .ref q_i) (C := R_TP) (T := T_TP) hx hb hts fw_TP hown hw 0 rfl rfl 0 (by decide +kernel) (hts _ wd_233) rfl d_TP_sum_6 ?_
  refine tp_getN (v := .int i_c) (C := R_Row) (T := T_Row) hx hb hts fw_Row hown hw 1 rfl rfl 1 (by decide +kernel) nw_11 rfl d_TP_sum_9 ?_
  obtain ⟨r1, hm2, hm⟩ := tp_b1_e hm
  refine tp_calli (wr := [(q_h, .inr (6, [.ref q_i, .ref q_o, .ref q_t, .ref q_mt, .ref q_bw, .ref q_sw, .ref q_br, .ref q_sr, .int h_place])), (q_o, .inr (3, [.ref q_oB, .int o_c])), (q_oB, .inl (cB, 10000, .inl o_f)), (q_t, .inr (3, [.ref q_tB, .int t_c])), (q_tB, .inl (cB, 10000, .inl t_f)), (q_mt, .inr (2, [.ref q_i, .ref q_mtb, .ref q_mtl, .int mt_from, .int mt_to, .int mt_len, .int mt_dist])), (q_mtb, .inl (cI, 10000, .inl mt_bef)), (q_mtl, .inl (cI, 2048, .inl mt_lat)), (q_bw, .inr (1, [.ref q_i, .ref q_t, .ref q_mt])), (q_sw, .inr (5, [.ref q_i, .ref q_t, .ref q_bw])), (q_br, .inr (0, [.ref q_i, .ref q_t, .int br_at, .int br_end, .int br_tb, .long br_len, .int br_fault, .int br_fp])), (q_sr, .inr (4, [.ref q_i, .ref q_t, .ref q_br, .int sr_at, .int sr_most, .int sr_fault, .int sr_fp]))]) (WS' := [(q_h, .inr (6, [.ref q_i, .ref q_o, .ref q_t, .ref q_mt, .ref q_bw, .ref q_sw, .ref q_br, .ref q_sr, .int h_place])), (q_i, .inr (3, [.ref q_iB, .int i_c])), (q_iB, .inl (cB, 10000, .inl i_f)), (q_o, .inr (3, [.ref q_oB, .int o_c])), (q_oB, .inl (cB, 10000, .inl o_f)), (q_t, .inr (3, [.ref q_tB, .int t_c])), (q_tB, .inl (cB, 10000, .inl t_f)), (q_mt, .inr (2, [.ref q_i, .ref q_mtb, .ref q_mtl, .int mt_from, .int mt_to, .int mt_len, .int mt_dist])), (q_mtb, .inl (cI, 10000, .inl mt_bef)), (q_mtl, .inl (cI, 2048, .inl mt_lat)), (q_bw, .inr (1, [.ref q_i, .ref q_t, .ref q_mt])), (q_sw, .inr (5, [.ref q_i, .ref q_t, .ref q_bw])), (q_br, .inr (0, [.ref q_i, .ref q_t, .int br_at, .int br_end, .int br_tb, .long br_len, .int br_fault, .int br_fp])), (q_sr, .inr (4, [.ref q_i, .ref q_t, .ref q_br, .int sr_at, .int sr_most, .int sr_fault, .int sr_fp]))]) (va_runS (As := [.ref q_i, .int (0 : Int32), .int i_c]) (rest := []) hF (ct_Sums_sumOf (l := l) (D := D) (cB := cB) (cI := cI) (tM := tM) (q_b := q_i) (q_bB := q_iB) (b_c := i_c) (b_f := i_f) (x1 := (0 : Int32)) (x2 := i_c) (N := N) (r := r1) hm2 _) (va_cwS 3 hts (tpG_S wd_290 wd_119 wd_27 wd_117) rfl rfl rfl yd_Sums_sumOf ⟨Nat.le_of_ble_eq_true rfl, Nat.le_of_ble_eq_true rfl⟩) ⟨tp_blind, tp_pre hw [1, 2] rfl rfl⟩ rfl rfl hl.1 rfl (lv_room (Nat.le_of_ble_eq_true rfl)) d_TP_sum_12 ⟨Nat.le_of_ble_eq_true rfl, Nat.le_of_ble_eq_true rfl⟩) hw [1, 2] [0, 3, 4, 5, 6, 7, 8, 9, 10, 11, 12, 13] [0, 12, 13, 1, 2, 3, 4, 5, 6, 7, 8, 9, 10, 11] rfl rfl rfl (by decide) rfl rfl (fun H locs hw => ?_)
  obtain rfl := tp_inj1 hm
  exact tp_iret hx hb hr hlocks hw d_TP_sum_15
end
abbrev rm_TP_size : Room := { frames := 0, cells := 0, slots := 0, locals := 0 }
abbrev ws_TP_size : List Cond := .code y_TP_size c_TP_size 1 (some .int) :: tpG
noncomputable def m_TP_size (o_c : Int32) : Option (Int32) :=
  some (o_c)
section
variable {p : Program} {l : Launch} {e : Env} {s : State} {m : MethodId} {args : Array Value} {below : List Frame} {meth : Method} {c : Code} {A : Nat → Prop} {D : va_G} {cB cI : ClassId} {tM : Nat}
set_option maxHeartbeats 4000000 in
set_option maxRecDepth 100000 in
theorem ct_TP_size {q_h q_i q_iB q_o q_oB q_t q_tB q_mt q_mtb q_mtl q_bw q_sw q_br q_sr : Nat} {h_place : Int32} {i_c : Int32} {i_f : Nat → Int32} {o_c : Int32} {o_f : Nat → Int32} {t_c : Int32} {t_f : Nat → Int32} {mt_from : Int32} {mt_to : Int32} {mt_len : Int32} {mt_dist : Int32} {mt_bef : Nat → Int32} {mt_lat : Nat → Int32} {br_at : Int32} {br_end : Int32} {br_tb : Int32} {br_len : Int64} {br_fault : Int32} {br_fp : Int32} {sr_at : Int32} {sr_most : Int32} {sr_fault : Int32} {sr_fp : Int32} {r : Int32} (hm : m_TP_size o_c = some (r)) (sz : Nat) : tp_Ci l y_TP_size ws_TP_size rm_TP_size D (tp_ty cB cI) tM [.ref q_h] [(q_h, .inr (6, [.ref q_i, .ref q_o, .ref q_t, .ref q_mt, .ref q_bw, .ref q_sw, .ref q_br, .ref q_sr, .int h_place])), (q_i, .inr (3, [.ref q_iB, .int i_c])), (q_iB, .inl (cB, 10000, .inl i_f)), (q_o, .inr (3, [.ref q_oB, .int o_c])), (q_oB, .inl (cB, 10000, .inl o_f)), (q_t, .inr (3, [.ref q_tB, .int t_c])), (q_tB, .inl (cB, 10000, .inl t_f)), (q_mt, .inr (2, [.ref q_i, .ref q_mtb, .ref q_mtl, .int mt_from, .int mt_to, .int mt_len, .int mt_dist])), (q_mtb, .inl (cI, 10000, .inl mt_bef)), (q_mtl, .inl (cI, 2048, .inl mt_lat)), (q_bw, .inr (1, [.ref q_i, .ref q_t, .ref q_mt])), (q_sw, .inr (5, [.ref q_i, .ref q_t, .ref q_bw])), (q_br, .inr (0, [.ref q_i, .ref q_t, .int br_at, .int br_end, .int br_tb, .long br_len, .int br_fault, .int br_fp])), (q_sr, .inr (4, [.ref q_i, .ref q_t, .ref q_br, .int sr_at, .int sr_most, .int sr_fault, .int sr_fp]))] sz r [(q_h, .inr (6, [.ref q_i, .ref q_o, .ref q_t, .ref q_mt, .ref q_bw, .ref q_sw, .ref q_br, .ref q_sr, .int h_place])), (q_i, .inr (3, [.ref q_iB, .int i_c])), (q_iB, .inl (cB, 10000, .inl i_f)), (q_o, .inr (3, [.ref q_oB, .int o_c])), (q_oB, .inl (cB, 10000, .inl o_f)), (q_t, .inr (3, [.ref q_tB, .int t_c])), (q_tB, .inl (cB, 10000, .inl t_f)), (q_mt, .inr (2, [.ref q_i, .ref q_mtb, .ref q_mtl, .int mt_from, .int mt_to, .int mt_len, .int mt_dist])), (q_mtb, .inl (cI, 10000, .inl mt_bef)), (q_mtl, .inl (cI, 2048, .inl mt_lat)), (q_bw, .inr (1, [.ref q_i, .ref q_t, .ref q_mt])), (q_sw, .inr (5, [.ref q_i, .ref q_t, .ref q_bw])), (q_br, .inr (0, [.ref q_i, .ref q_t, .int br_at, .int br_end, .int br_tb, .long br_len, .int br_fault, .int br_fp])), (q_sr, .inr (4, [.ref q_i, .ref q_t, .ref q_br, .int sr_at, .int sr_most, .int sr_fault, .int sr_fp]))] := by
  refine Met.ofW (cc := c_TP_size) (maxL := 1) (ret := (some .int)) (by decide) rfl ?_
  intro p e s m args below meth c s₁ B hml hv
  obtain ⟨rfl, hv⟩ := hv
  have hw := tp_entry hv
  generalize va_A [(q_h, .inr (6, [.ref q_i, .ref q_o, .ref q_t, .ref q_mt, .ref q_bw, .ref q_sw, .ref q_br, .ref q_sr, .int h_place])), (q_i, .inr (3, [.ref q_iB, .int i_c])), (q_iB, .inl (cB, 10000, .inl i_f)), (q_o, .inr (3, [.ref q_oB, .int o_c])), (q_oB, .inl (cB, 10000, .inl o_f)), (q_t, .inr (3, [.ref q_tB, .int t_c])), (q_tB, .inl (cB, 10000, .inl t_f)), (q_mt, .inr (2, [.ref q_i, .ref q_mtb, .ref q_mtl, .int mt_from, .int mt_to, .int mt_len, .int mt_dist])), (q_mtb, .inl (cI, 10000, .inl mt_bef)), (q_mtl, .inl (cI, 2048, .inl mt_lat)), (q_bw, .inr (1, [.ref q_i, .ref q_t, .ref q_mt])), (q_sw, .inr (5, [.ref q_i, .ref q_t, .ref q_bw])), (q_br, .inr (0, [.ref q_i, .ref q_t, .int br_at, .int br_end, .int br_tb, .long br_len, .int br_fault, .int br_fp])), (q_sr, .inr (4, [.ref q_i, .ref q_t, .ref q_br, .int sr_at, .int sr_most, .int sr_fault, .int sr_fp]))] sz = A at hw ⊢
  have hx := B.exec
  have hb := B.bytes
  have hr := B.returns
  have hts0 := atoms_spec (ws := ws_TP_size) B.pre
  have hts := fun w h => hts0 w (List.mem_cons_of_mem _ h)
  have hown : s.vm.findClass R_TP = some m.cls := findClass_of_methodNamed B.named
  have hlocks := B.notSynchronized
  have hF : CallFix p m c c_TP_size 1 s _ tpG R_TP := ⟨hx, hb, hml, hown, hts⟩
  have hF2 : tp_F p m c c_TP_size 1 s _ tpG R_TP meth (some .int) := ⟨hF, hr, hlocks⟩
  have hl := lv_entry ([.ref q_h]) (n := 1) (Nat.le_of_ble_eq_true rfl)
  rw [lg_entry_eq]
  generalize (lg_sl ([.ref q_h]) ++ List.replicate (1 - (lg_sl ([.ref q_h])).length) Slot.unset).toArray = ls at hl ⊢
  replace hl : lv_has ls 1 [(0, .ref q_h)] := hl
  unfold m_TP_size at hm
  refine lv_aload_n hx hb d_TP_size_0 rfl (lv_at hl 0 rfl) ?_
  refine tp_get (v := .ref q_o) (C := R_TP) (T := T_TP) hx hb hts fw_TP hown hw 0 rfl rfl 1 (by decide +kernel) (hts _ wd_228) rfl d_TP_size_1 ?_
  refine tp_getN (v := .int o_c) (C := R_Row) (T := T_Row) hx hb hts fw_Row hown hw 3 rfl rfl 1 (by decide +kernel) nw_11 rfl d_TP_size_4 ?_
  obtain rfl := tp_inj1 hm
  exact tp_iret hx hb hr hlocks hw d_TP_size_7
end
abbrev rm_TP_byteAt : Room := { frames := 1, cells := 0, slots := 0, locals := 21 }
abbrev ws_TP_byteAt : List Cond := .code y_TP_byteAt c_TP_byteAt 2 (some .int) :: tpG
noncomputable def m_TP_byteAt (x1 : Int32) (o_c : Int32) (o_f : Nat → Int32) : Option (Int32) :=
  tp_b1 (m_Row_at x1 o_c o_f) fun r1 =>
  some (r1)
section
variable {p : Program} {l : Launch} {e : Env} {s : State} {m : MethodId} {args : Array Value} {below : List Frame} {meth : Method} {c : Code} {A : Nat → Prop} {D : va_G} {cB cI : ClassId} {tM : Nat}
set_option maxHeartbeats 4000000 in
set_option maxRecDepth 100000 in
theorem ct_TP_byteAt {q_h q_i q_iB q_o q_oB q_t q_tB q_mt q_mtb q_mtl q_bw q_sw q_br q_sr : Nat} {h_place : Int32} {i_c : Int32} {i_f : Nat → Int32} {o_c : Int32} {o_f : Nat → Int32} {t_c : Int32} {t_f : Nat → Int32} {mt_from : Int32} {mt_to : Int32} {mt_len : Int32} {mt_dist : Int32} {mt_bef : Nat → Int32} {mt_lat : Nat → Int32} {br_at : Int32} {br_end : Int32} {br_tb : Int32} {br_len : Int64} {br_fault : Int32} {br_fp : Int32} {sr_at : Int32} {sr_most : Int32} {sr_fault : Int32} {sr_fp : Int32} {x1 : Int32} {r : Int32} (hm : m_TP_byteAt x1 o_c o_f = some (r)) (sz : Nat) : tp_Ci l y_TP_byteAt ws_TP_byteAt rm_TP_byteAt D (tp_ty cB cI) tM [.ref q_h, .int x1] [(q_h, .inr (6, [.ref q_i, .ref q_o, .ref q_t, .ref q_mt, .ref q_bw, .ref q_sw, .ref q_br, .ref q_sr, .int h_place])), (q_i, .inr (3, [.ref q_iB, .int i_c])), (q_iB, .inl (cB, 10000, .inl i_f)), (q_o, .inr (3, [.ref q_oB, .int o_c])), (q_oB, .inl (cB, 10000, .inl o_f)), (q_t, .inr (3, [.ref q_tB, .int t_c])), (q_tB, .inl (cB, 10000, .inl t_f)), (q_mt, .inr (2, [.ref q_i, .ref q_mtb, .ref q_mtl, .int mt_from, .int mt_to, .int mt_len, .int mt_dist])), (q_mtb, .inl (cI, 10000, .inl mt_bef)), (q_mtl, .inl (cI, 2048, .inl mt_lat)), (q_bw, .inr (1, [.ref q_i, .ref q_t, .ref q_mt])), (q_sw, .inr (5, [.ref q_i, .ref q_t, .ref q_bw])), (q_br, .inr (0, [.ref q_i, .ref q_t, .int br_at, .int br_end, .int br_tb, .long br_len, .int br_fault, .int br_fp])), (q_sr, .inr (4, [.ref q_i, .ref q_t, .ref q_br, .int sr_at, .int sr_most, .int sr_fault, .int sr_fp]))] sz r [(q_h, .inr (6, [.ref q_i, .ref q_o, .ref q_t, .ref q_mt, .ref q_bw, .ref q_sw, .ref q_br, .ref q_sr, .int h_place])), (q_i, .inr (3, [.ref q_iB, .int i_c])), (q_iB, .inl (cB, 10000, .inl i_f)), (q_o, .inr (3, [.ref q_oB, .int o_c])), (q_oB, .inl (cB, 10000, .inl o_f)), (q_t, .inr (3, [.ref q_tB, .int t_c])), (q_tB, .inl (cB, 10000, .inl t_f)), (q_mt, .inr (2, [.ref q_i, .ref q_mtb, .ref q_mtl, .int mt_from, .int mt_to, .int mt_len, .int mt_dist])), (q_mtb, .inl (cI, 10000, .inl mt_bef)), (q_mtl, .inl (cI, 2048, .inl mt_lat)), (q_bw, .inr (1, [.ref q_i, .ref q_t, .ref q_mt])), (q_sw, .inr (5, [.ref q_i, .ref q_t, .ref q_bw])), (q_br, .inr (0, [.ref q_i, .ref q_t, .int br_at, .int br_end, .int br_tb, .long br_len, .int br_fault, .int br_fp])), (q_sr, .inr (4, [.ref q_i, .ref q_t, .ref q_br, .int sr_at, .int sr_most, .int sr_fault, .int sr_fp]))] := by
  refine Met.ofW (cc := c_TP_byteAt) (maxL := 2) (ret := (some .int)) (by decide) rfl ?_
  intro p e s m args below meth c s₁ B hml hv
  obtain ⟨rfl, hv⟩ := hv
  have hw := tp_entry hv
  generalize va_A [(q_h, .inr (6, [.ref q_i, .ref q_o, .ref q_t, .ref q_mt, .ref q_bw, .ref q_sw, .ref q_br, .ref q_sr, .int h_place])), (q_i, .inr (3, [.ref q_iB, .int i_c])), (q_iB, .inl (cB, 10000, .inl i_f)), (q_o, .inr (3, [.ref q_oB, .int o_c])), (q_oB, .inl (cB, 10000, .inl o_f)), (q_t, .inr (3, [.ref q_tB, .int t_c])), (q_tB, .inl (cB, 10000, .inl t_f)), (q_mt, .inr (2, [.ref q_i, .ref q_mtb, .ref q_mtl, .int mt_from, .int mt_to, .int mt_len, .int mt_dist])), (q_mtb, .inl (cI, 10000, .inl mt_bef)), (q_mtl, .inl (cI, 2048, .inl mt_lat)), (q_bw, .inr (1, [.ref q_i, .ref q_t, .ref q_mt])), (q_sw, .inr (5, [.ref q_i, .ref q_t, .ref q_bw])), (q_br, .inr (0, [.ref q_i, .ref q_t, .int br_at, .int br_end, .int br_tb, .long br_len, .int br_fault, .int br_fp])), (q_sr, .inr (4, [.ref q_i, .ref q_t, .ref q_br, .int sr_at, .int sr_most, .int sr_fault, .int sr_fp]))] sz = A at hw ⊢
  have hx := B.exec
  have hb := B.bytes
  have hr := B.returns
  have hts0 := atoms_spec (ws := ws_TP_byteAt) B.pre
  have hts := fun w h => hts0 w (List.mem_cons_of_mem _ h)
  have hown : s.vm.findClass R_TP = some m.cls := findClass_of_methodNamed B.named
  have hlocks := B.notSynchronized
  have hF : CallFix p m c c_TP_byteAt 2 s _ tpG R_TP := ⟨hx, hb, hml, hown, hts⟩
  have hF2 : tp_F p m c c_TP_byteAt 2 s _ tpG R_TP meth (some .int) := ⟨hF, hr, hlocks⟩
  have hl := lv_entry ([.ref q_h, .int x1]) (n := 2) (Nat.le_of_ble_eq_true rfl)
  rw [lg_entry_eq]
  generalize (lg_sl ([.ref q_h, .int x1]) ++ List.replicate (2 - (lg_sl ([.ref q_h, .int x1])).length) Slot.unset).toArray = ls at hl ⊢
  replace hl : lv_has ls 2 [(0, .ref q_h), (1, .int x1)] := hl
  unfold m_TP_byteAt at hm
  refine lv_aload_n hx hb d_TP_byteAt_0 rfl (lv_at hl 0 rfl) ?_
  refine tp_get (v := .ref q_o) (C := R_TP) (T := T_TP) hx hb hts fw_TP hown hw 0 rfl rfl 1 (by decide +kernel) (hts _ wd_228) rfl d_TP_byteAt_1 ?_
  refine lv_iload_n hx hb d_TP_byteAt_4 rfl (lv_at hl 1 rfl) ?_
  obtain ⟨r1, hm2, hm⟩ := tp_b1_e hm
  refine tp_calli (wr := [(q_h, .inr (6, [.ref q_i, .ref q_o, .ref q_t, .ref q_mt, .ref q_bw, .ref q_sw, .ref q_br, .ref q_sr, .int h_place])), (q_i, .inr (3, [.ref q_iB, .int i_c])), (q_iB, .inl (cB, 10000, .inl i_f)), (q_t, .inr (3, [.ref q_tB, .int t_c])), (q_tB, .inl (cB, 10000, .inl t_f)), (q_mt, .inr (2, [.ref q_i, .ref q_mtb, .ref q_mtl, .int mt_from, .int mt_to, .int mt_len, .int mt_dist])), (q_mtb, .inl (cI, 10000, .inl mt_bef)), (q_mtl, .inl (cI, 2048, .inl mt_lat)), (q_bw, .inr (1, [.ref q_i, .ref q_t, .ref q_mt])), (q_sw, .inr (5, [.ref q_i, .ref q_t, .ref q_bw])), (q_br, .inr (0, [.ref q_i, .ref q_t, .int br_at, .int br_end, .int br_tb, .long br_len, .int br_fault, .int br_fp])), (q_sr, .inr (4, [.ref q_i, .ref q_t, .ref q_br, .int sr_at, .int sr_most, .int sr_fault, .int sr_fp]))]) (WS' := [(q_h, .inr (6, [.ref q_i, .ref q_o, .ref q_t, .ref q_mt, .ref q_bw, .ref q_sw, .ref q_br, .ref q_sr, .int h_place])), (q_i, .inr (3, [.ref q_iB, .int i_c])), (q_iB, .inl (cB, 10000, .inl i_f)), (q_o, .inr (3, [.ref q_oB, .int o_c])), (q_oB, .inl (cB, 10000, .inl o_f)), (q_t, .inr (3, [.ref q_tB, .int t_c])), (q_tB, .inl (cB, 10000, .inl t_f)), (q_mt, .inr (2, [.ref q_i, .ref q_mtb, .ref q_mtl, .int mt_from, .int mt_to, .int mt_len, .int mt_dist])), (q_mtb, .inl (cI, 10000, .inl mt_bef)), (q_mtl, .inl (cI, 2048, .inl mt_lat)), (q_bw, .inr (1, [.ref q_i, .ref q_t, .ref q_mt])), (q_sw, .inr (5, [.ref q_i, .ref q_t, .ref q_bw])), (q_br, .inr (0, [.ref q_i, .ref q_t, .int br_at, .int br_end, .int br_tb, .long br_len, .int br_fault, .int br_fp])), (q_sr, .inr (4, [.ref q_i, .ref q_t, .ref q_br, .int sr_at, .int sr_most, .int sr_fault, .int sr_fp]))]) (va_runV (As := [.int x1]) (rest := []) hF (ct_Row_at (l := l) (D := D) (cB := cB) (cI := cI) (tM := tM) (q_a := q_o) (q_aB := q_oB) (a_c := o_c) (a_f := o_f) (x1 := x1) (r := r1) hm2 _) (cwV 1 hts (tpG_V wd_291 wd_13 wd_14 wd_3 wd_11) rfl rfl rfl ⟨rfl, yd_Row_at⟩ ⟨Nat.le_of_ble_eq_true rfl, Nat.le_of_ble_eq_true rfl⟩) ⟨tp_blind, va_recv hw.1 hw.2.1 (ci := 3) (q0 := 3) rfl rfl, tp_pre hw [3, 4] rfl rfl⟩ rfl rfl hl.1 rfl (lv_room (Nat.le_of_ble_eq_true rfl)) d_TP_byteAt_5 ⟨Nat.le_of_ble_eq_true rfl, Nat.le_of_ble_eq_true rfl⟩) hw [3, 4] [0, 1, 2, 5, 6, 7, 8, 9, 10, 11, 12, 13] [0, 1, 2, 12, 13, 3, 4, 5, 6, 7, 8, 9, 10, 11] rfl rfl rfl (by decide) rfl rfl (fun H locs hw => ?_)
  obtain rfl := tp_inj1 hm
  exact tp_iret hx hb hr hlocks hw d_TP_byteAt_8
end
