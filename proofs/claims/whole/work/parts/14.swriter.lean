abbrev rm_StreamWriter_putMark : Room := { frames := 2, cells := 0, slots := 0, locals := 44 }
abbrev ws_StreamWriter_putMark : List Cond := .code y_StreamWriter_putMark c_StreamWriter_putMark 5 none :: tpG
noncomputable def m_StreamWriter_putMark_31 (N : Nat) (rec31 : Int32 → Int32 → Int32 → (Nat → Int32) → Option (Int32 × (Nat → Int32))) (x2 : Int32) (x3 : Int32) (t_c : Int32) (t_f : Nat → Int32) : Option (Int32 × (Nat → Int32)) :=
  if x2 ≤ x3 then
    some (t_c, t_f)
  else
    tp_gd (tp_inb x3 6) <|
    tp_b0 (tp_mark (Int32.toNatClampNeg x3)) fun y9 =>
    tp_b2 (m_Row_put y9 t_c t_f) fun a_c_10 a_f_11 =>
    rec31 x2 (x3 + (1 : Int32)) a_c_10 a_f_11
noncomputable def m_StreamWriter_putMark (N : Nat) (t_c : Int32) (t_f : Nat → Int32) : Option (Int32 × (Nat → Int32)) :=
  tp_b2 (m_Row_put (255 : Int32) t_c t_f) fun a_c_1 a_f_2 =>
  tp_b2 (m_Row_putNumber N (6 : Int32) (3 : Int32) a_c_1 a_f_2) fun a_c_4 a_f_5 =>
  tp_it4 (m_StreamWriter_putMark_31 N ) N (6 : Int32) (0 : Int32) a_c_4 a_f_5
section
variable {p : Program} {l : Launch} {e : Env} {s : State} {m : MethodId} {args : Array Value} {below : List Frame} {meth : Method} {c : Code} {A : Nat → Prop} {D : va_G} {cB cI : ClassId} {tM : Nat}
set_option maxHeartbeats 4000000 in
set_option maxRecDepth 100000 in
theorem w_StreamWriter_putMark_31 {q_sw q_i q_iB q_t q_tB q_bw q_mt q_mtb q_mtl : Nat} {i_c : Int32} {i_f : Nat → Int32} {mt_from : Int32} {mt_to : Int32} {mt_len : Int32} {mt_dist : Int32} {mt_bef : Nat → Int32} {mt_lat : Nat → Int32} {N : Nat} {t_c' : Int32} {t_f' : Nat → Int32} (hF2 : tp_F p m c c_StreamWriter_putMark 5 s args tpG R_StreamWriter meth none) : ∀ (n : Nat), ∀ (x2 : Int32) (x3 : Int32) (t_c : Int32) (t_f : Nat → Int32) (H : Heap) (locs : List Loc) (ls : Array Slot), tp_it4 (m_StreamWriter_putMark_31 N ) n x2 x3 t_c t_f = some (t_c', t_f') → tp_Wd D (tp_ty cB cI) tM A s H locs [(q_sw, .inr (5, [.ref q_i, .ref q_t, .ref q_bw])), (q_i, .inr (3, [.ref q_iB, .int i_c])), (q_iB, .inl (cB, 10000, .inl i_f)), (q_t, .inr (3, [.ref q_tB, .int t_c])), (q_tB, .inl (cB, 10000, .inl t_f)), (q_bw, .inr (1, [.ref q_i, .ref q_t, .ref q_mt])), (q_mt, .inr (2, [.ref q_i, .ref q_mtb, .ref q_mtl, .int mt_from, .int mt_to, .int mt_len, .int mt_dist])), (q_mtb, .inl (cI, 10000, .inl mt_bef)), (q_mtl, .inl (cI, 2048, .inl mt_lat))] → lv_has ls 5 [(0, .ref q_sw), (1, .ref tM), (2, .int x2), (3, .int x3)] → W p l e rm_StreamWriter_putMark s m args below meth c H locs 0 0 (MQ below (tp_Qv (S := Unit) D A (fun _ => [(q_sw, .inr (5, [.ref q_i, .ref q_t, .ref q_bw])), (q_i, .inr (3, [.ref q_iB, .int i_c])), (q_iB, .inl (cB, 10000, .inl i_f)), (q_t, .inr (3, [.ref q_tB, .int t_c'])), (q_tB, .inl (cB, 10000, .inl t_f')), (q_bw, .inr (1, [.ref q_i, .ref q_t, .ref q_mt])), (q_mt, .inr (2, [.ref q_i, .ref q_mtb, .ref q_mtl, .int mt_from, .int mt_to, .int mt_len, .int mt_dist])), (q_mtb, .inl (cI, 10000, .inl mt_bef)), (q_mtl, .inl (cI, 2048, .inl mt_lat))])) args s 0 0 A) (F0 m 31 ls []) := by
  obtain ⟨hF, hr, hlocks⟩ := id hF2
  obtain ⟨hx, hb, hml, hown, hts⟩ := id hF
  intro n
  induction n with
  | zero => intro x2 x3 t_c t_f H locs ls hm; exact absurd hm (by simp [tp_it4])
  | succ n ih31 =>
    intro x2 x3 t_c t_f H locs ls hm hw hl
    replace hm : m_StreamWriter_putMark_31 N  (tp_it4 (m_StreamWriter_putMark_31 N ) n) x2 x3 t_c t_f = some (t_c', t_f') := hm
    unfold m_StreamWriter_putMark_31 at hm
    refine lv_iload_n hx hb d_StreamWriter_putMark_31 rfl (lv_at hl 3 rfl) ?_
    refine lv_iload_n hx hb d_StreamWriter_putMark_32 rfl (lv_at hl 2 rfl) ?_
    refine lv_icmp_ge (tgt := 56) hx hb d_StreamWriter_putMark_33 (by decide +kernel) (fun hc7 => ?_) (fun hc7 => ?_)
    · replace hm := tp_it hc7 hm
      obtain ⟨rfl, rfl⟩ := tp_inj2 hm
      exact tp_vret () hx hb hr hlocks hw d_StreamWriter_putMark_56
    · replace hm := tp_if hc7 hm
      refine lv_aload_n hx hb d_StreamWriter_putMark_36 rfl (lv_at hl 1 rfl) ?_
      refine lv_iload_n hx hb d_StreamWriter_putMark_37 rfl (lv_at hl 3 rfl) ?_
      obtain ⟨hi8, hm⟩ := tp_gd_e hm
      refine va_ti (v := .int (tp_mark (Int32.toNatClampNeg x3))) hx hb hw.2.2.2.2.2.2.2 hw.2.2.2.1 (tp_inb_v hi8) rfl d_StreamWriter_putMark_38 ?_
      obtain ⟨y9, ey9, hm⟩ := tp_b0_e hm
      refine tp_topi ey9 ?_
      refine lv_istore (lv' := [(4, .int y9), (0, .ref q_sw), (1, .ref tM), (2, .int x2), (3, .int x3)]) hx hb d_StreamWriter_putMark_39 hl (by decide +kernel) rfl (fun ls hl => ?_)
      refine lv_aload_n hx hb d_StreamWriter_putMark_41 rfl (lv_at hl 1 rfl) ?_
      refine tp_get (v := .ref q_t) (C := R_StreamWriter) (T := T_StreamWriter) hx hb hts fw_StreamWriter hown hw 0 rfl rfl 1 (by decide +kernel) (hts _ wd_113) rfl d_StreamWriter_putMark_42 ?_
      refine lv_iload hx hb d_StreamWriter_putMark_45 (lv_at hl 0 rfl) ?_
      obtain ⟨a_c_10, a_f_11, hm12, hm⟩ := tp_b2_e hm
      refine tp_callv (wr := [(q_sw, .inr (5, [.ref q_i, .ref q_t, .ref q_bw])), (q_i, .inr (3, [.ref q_iB, .int i_c])), (q_iB, .inl (cB, 10000, .inl i_f)), (q_bw, .inr (1, [.ref q_i, .ref q_t, .ref q_mt])), (q_mt, .inr (2, [.ref q_i, .ref q_mtb, .ref q_mtl, .int mt_from, .int mt_to, .int mt_len, .int mt_dist])), (q_mtb, .inl (cI, 10000, .inl mt_bef)), (q_mtl, .inl (cI, 2048, .inl mt_lat))]) (WS' := [(q_sw, .inr (5, [.ref q_i, .ref q_t, .ref q_bw])), (q_i, .inr (3, [.ref q_iB, .int i_c])), (q_iB, .inl (cB, 10000, .inl i_f)), (q_t, .inr (3, [.ref q_tB, .int a_c_10])), (q_tB, .inl (cB, 10000, .inl a_f_11)), (q_bw, .inr (1, [.ref q_i, .ref q_t, .ref q_mt])), (q_mt, .inr (2, [.ref q_i, .ref q_mtb, .ref q_mtl, .int mt_from, .int mt_to, .int mt_len, .int mt_dist])), (q_mtb, .inl (cI, 10000, .inl mt_bef)), (q_mtl, .inl (cI, 2048, .inl mt_lat))]) (va_runV (As := [.int y9]) (rest := []) hF (ct_Row_put (l := l) (D := D) (cB := cB) (cI := cI) (tM := tM) (q_a := q_t) (q_aB := q_tB) (a_c := t_c) (a_f := t_f) (x1 := y9) (a_c' := a_c_10) (a_f' := a_f_11) hm12 _) (cwV 1 hts (tpG_V wd_114 wd_5 wd_6 wd_3 wd_2) rfl rfl rfl ⟨rfl, yd_Row_put⟩ ⟨Nat.le_of_ble_eq_true rfl, Nat.le_of_ble_eq_true rfl⟩) ⟨tp_blind, va_recv hw.1 hw.2.1 (ci := 3) (q0 := 3) rfl rfl, tp_pre hw [3, 4] rfl rfl⟩ rfl rfl hl.1 rfl (lv_room (Nat.le_of_ble_eq_true rfl)) d_StreamWriter_putMark_47 ⟨Nat.le_of_ble_eq_true rfl, Nat.le_of_ble_eq_true rfl⟩) hw [3, 4] [0, 1, 2, 5, 6, 7, 8] [0, 1, 2, 7, 8, 3, 4, 5, 6] rfl rfl rfl (by decide) rfl rfl (fun H locs hw => ?_)
      refine lv_iinc (v := (x3 + (1 : Int32))) (lv' := [(3, .int (x3 + (1 : Int32))), (4, .int y9), (0, .ref q_sw), (1, .ref tM), (2, .int x2)]) hx hb d_StreamWriter_putMark_50 hl (k := 4) rfl rfl (by decide +kernel) rfl (fun ls hl => ?_)
      refine lv_goto (tgt := 31) hx hb d_StreamWriter_putMark_53 (by decide +kernel) ?_
      exact ih31 _ _ _ _ _ _ _ hm hw (lv_sub hl [2, 3, 4, 0] rfl)
set_option maxHeartbeats 4000000 in
set_option maxRecDepth 100000 in
theorem ct_StreamWriter_putMark {q_sw q_i q_iB q_t q_tB q_bw q_mt q_mtb q_mtl : Nat} {i_c : Int32} {i_f : Nat → Int32} {t_c : Int32} {t_f : Nat → Int32} {mt_from : Int32} {mt_to : Int32} {mt_len : Int32} {mt_dist : Int32} {mt_bef : Nat → Int32} {mt_lat : Nat → Int32} {N : Nat} {t_c' : Int32} {t_f' : Nat → Int32} (hm : m_StreamWriter_putMark N t_c t_f = some (t_c', t_f')) (sz : Nat) : tp_Cv l y_StreamWriter_putMark ws_StreamWriter_putMark rm_StreamWriter_putMark D (tp_ty cB cI) tM [.ref q_sw] [(q_sw, .inr (5, [.ref q_i, .ref q_t, .ref q_bw])), (q_i, .inr (3, [.ref q_iB, .int i_c])), (q_iB, .inl (cB, 10000, .inl i_f)), (q_t, .inr (3, [.ref q_tB, .int t_c])), (q_tB, .inl (cB, 10000, .inl t_f)), (q_bw, .inr (1, [.ref q_i, .ref q_t, .ref q_mt])), (q_mt, .inr (2, [.ref q_i, .ref q_mtb, .ref q_mtl, .int mt_from, .int mt_to, .int mt_len, .int mt_dist])), (q_mtb, .inl (cI, 10000, .inl mt_bef)), (q_mtl, .inl (cI, 2048, .inl mt_lat))] sz [(q_sw, .inr (5, [.ref q_i, .ref q_t, .ref q_bw])), (q_i, .inr (3, [.ref q_iB, .int i_c])), (q_iB, .inl (cB, 10000, .inl i_f)), (q_t, .inr (3, [.ref q_tB, .int t_c'])), (q_tB, .inl (cB, 10000, .inl t_f')), (q_bw, .inr (1, [.ref q_i, .ref q_t, .ref q_mt])), (q_mt, .inr (2, [.ref q_i, .ref q_mtb, .ref q_mtl, .int mt_from, .int mt_to, .int mt_len, .int mt_dist])), (q_mtb, .inl (cI, 10000, .inl mt_bef)), (q_mtl, .inl (cI, 2048, .inl mt_lat))] := by
  refine Met.ofW (cc := c_StreamWriter_putMark) (maxL := 5) (ret := none) (by decide) rfl ?_
  intro p e s m args below meth c s₁ B hml hv
  obtain ⟨rfl, hv⟩ := hv
  have hw := tp_entry hv
  generalize va_A [(q_sw, .inr (5, [.ref q_i, .ref q_t, .ref q_bw])), (q_i, .inr (3, [.ref q_iB, .int i_c])), (q_iB, .inl (cB, 10000, .inl i_f)), (q_t, .inr (3, [.ref q_tB, .int t_c])), (q_tB, .inl (cB, 10000, .inl t_f)), (q_bw, .inr (1, [.ref q_i, .ref q_t, .ref q_mt])), (q_mt, .inr (2, [.ref q_i, .ref q_mtb, .ref q_mtl, .int mt_from, .int mt_to, .int mt_len, .int mt_dist])), (q_mtb, .inl (cI, 10000, .inl mt_bef)), (q_mtl, .inl (cI, 2048, .inl mt_lat))] sz = A at hw ⊢
  have hx := B.exec
  have hb := B.bytes
  have hr := B.returns
  have hts0 := atoms_spec (ws := ws_StreamWriter_putMark) B.pre
  have hts := fun w h => hts0 w (List.mem_cons_of_mem _ h)
  have hown : s.vm.findClass R_StreamWriter = some m.cls := findClass_of_methodNamed B.named
  have hlocks := B.notSynchronized
  have hF : CallFix p m c c_StreamWriter_putMark 5 s _ tpG R_StreamWriter := ⟨hx, hb, hml, hown, hts⟩
  have hF2 : tp_F p m c c_StreamWriter_putMark 5 s _ tpG R_StreamWriter meth none := ⟨hF, hr, hlocks⟩
  have hl := lv_entry ([.ref q_sw]) (n := 5) (Nat.le_of_ble_eq_true rfl)
  rw [lg_entry_eq]
  generalize (lg_sl ([.ref q_sw]) ++ List.replicate (5 - (lg_sl ([.ref q_sw])).length) Slot.unset).toArray = ls at hl ⊢
  replace hl : lv_has ls 5 [(0, .ref q_sw)] := hl
  unfold m_StreamWriter_putMark at hm
  refine lv_aload_n hx hb d_StreamWriter_putMark_0 rfl (lv_at hl 0 rfl) ?_
  refine tp_get (v := .ref q_t) (C := R_StreamWriter) (T := T_StreamWriter) hx hb hts fw_StreamWriter hown hw 0 rfl rfl 1 (by decide +kernel) (hts _ wd_113) rfl d_StreamWriter_putMark_1 ?_
  refine lv_sipush (v := (255 : Int32)) hx hb d_StreamWriter_putMark_4 (by decide +kernel) ?_
  obtain ⟨a_c_1, a_f_2, hm3, hm⟩ := tp_b2_e hm
  refine tp_callv (wr := [(q_sw, .inr (5, [.ref q_i, .ref q_t, .ref q_bw])), (q_i, .inr (3, [.ref q_iB, .int i_c])), (q_iB, .inl (cB, 10000, .inl i_f)), (q_bw, .inr (1, [.ref q_i, .ref q_t, .ref q_mt])), (q_mt, .inr (2, [.ref q_i, .ref q_mtb, .ref q_mtl, .int mt_from, .int mt_to, .int mt_len, .int mt_dist])), (q_mtb, .inl (cI, 10000, .inl mt_bef)), (q_mtl, .inl (cI, 2048, .inl mt_lat))]) (WS' := [(q_sw, .inr (5, [.ref q_i, .ref q_t, .ref q_bw])), (q_i, .inr (3, [.ref q_iB, .int i_c])), (q_iB, .inl (cB, 10000, .inl i_f)), (q_t, .inr (3, [.ref q_tB, .int a_c_1])), (q_tB, .inl (cB, 10000, .inl a_f_2)), (q_bw, .inr (1, [.ref q_i, .ref q_t, .ref q_mt])), (q_mt, .inr (2, [.ref q_i, .ref q_mtb, .ref q_mtl, .int mt_from, .int mt_to, .int mt_len, .int mt_dist])), (q_mtb, .inl (cI, 10000, .inl mt_bef)), (q_mtl, .inl (cI, 2048, .inl mt_lat))]) (va_runV (As := [.int (255 : Int32)]) (rest := []) hF (ct_Row_put (l := l) (D := D) (cB := cB) (cI := cI) (tM := tM) (q_a := q_t) (q_aB := q_tB) (a_c := t_c) (a_f := t_f) (x1 := (255 : Int32)) (a_c' := a_c_1) (a_f' := a_f_2) hm3 _) (cwV 1 hts (tpG_V wd_114 wd_5 wd_6 wd_3 wd_2) rfl rfl rfl ⟨rfl, yd_Row_put⟩ ⟨Nat.le_of_ble_eq_true rfl, Nat.le_of_ble_eq_true rfl⟩) ⟨tp_blind, va_recv hw.1 hw.2.1 (ci := 3) (q0 := 3) rfl rfl, tp_pre hw [3, 4] rfl rfl⟩ rfl rfl hl.1 rfl (lv_room (Nat.le_of_ble_eq_true rfl)) d_StreamWriter_putMark_7 ⟨Nat.le_of_ble_eq_true rfl, Nat.le_of_ble_eq_true rfl⟩) hw [3, 4] [0, 1, 2, 5, 6, 7, 8] [0, 1, 2, 7, 8, 3, 4, 5, 6] rfl rfl rfl (by decide) rfl rfl (fun H locs hw => ?_)
  refine lv_aload_n hx hb d_StreamWriter_putMark_10 rfl (lv_at hl 0 rfl) ?_
  refine tp_get (v := .ref q_t) (C := R_StreamWriter) (T := T_StreamWriter) hx hb hts fw_StreamWriter hown hw 0 rfl rfl 1 (by decide +kernel) (hts _ wd_113) rfl d_StreamWriter_putMark_11 ?_
  refine va_getsN (C := "TagPress$Chunk") (n := "MARK") (d := "[I") hx hb hw.2.2.2.2.2.2.1 hw.2.2.2.1 hown (va_Nw.use rfl (hw.2.2.2.2.1 _ nw_4)) (fun _ h => h) d_StreamWriter_putMark_14 ?_
  refine va_tlen (v := (6 : Int32)) hx hb hw.2.2.2.2.2.2.2 hw.2.2.2.1 rfl d_StreamWriter_putMark_17 ?_
  refine lv_iconst (v := (3 : Int32)) hx hb d_StreamWriter_putMark_18 (by decide +kernel) ?_
  obtain ⟨a_c_4, a_f_5, hm6, hm⟩ := tp_b2_e hm
  refine tp_callv (wr := [(q_sw, .inr (5, [.ref q_i, .ref q_t, .ref q_bw])), (q_i, .inr (3, [.ref q_iB, .int i_c])), (q_iB, .inl (cB, 10000, .inl i_f)), (q_bw, .inr (1, [.ref q_i, .ref q_t, .ref q_mt])), (q_mt, .inr (2, [.ref q_i, .ref q_mtb, .ref q_mtl, .int mt_from, .int mt_to, .int mt_len, .int mt_dist])), (q_mtb, .inl (cI, 10000, .inl mt_bef)), (q_mtl, .inl (cI, 2048, .inl mt_lat))]) (WS' := [(q_sw, .inr (5, [.ref q_i, .ref q_t, .ref q_bw])), (q_i, .inr (3, [.ref q_iB, .int i_c])), (q_iB, .inl (cB, 10000, .inl i_f)), (q_t, .inr (3, [.ref q_tB, .int a_c_4])), (q_tB, .inl (cB, 10000, .inl a_f_5)), (q_bw, .inr (1, [.ref q_i, .ref q_t, .ref q_mt])), (q_mt, .inr (2, [.ref q_i, .ref q_mtb, .ref q_mtl, .int mt_from, .int mt_to, .int mt_len, .int mt_dist])), (q_mtb, .inl (cI, 10000, .inl mt_bef)), (q_mtl, .inl (cI, 2048, .inl mt_lat))]) (va_runV (As := [.int (6 : Int32), .int (3 : Int32)]) (rest := []) hF (ct_Row_putNumber (l := l) (D := D) (cB := cB) (cI := cI) (tM := tM) (q_a := q_t) (q_aB := q_tB) (a_c := a_c_1) (a_f := a_f_2) (x1 := (6 : Int32)) (x2 := (3 : Int32)) (N := N) (a_c' := a_c_4) (a_f' := a_f_5) hm6 _) (cwV 2 hts (tpG_V wd_115 wd_83 wd_84 wd_3 wd_81) rfl rfl rfl ⟨rfl, yd_Row_putNumber⟩ ⟨Nat.le_of_ble_eq_true rfl, Nat.le_of_ble_eq_true rfl⟩) ⟨tp_blind, va_recv hw.1 hw.2.1 (ci := 3) (q0 := 3) rfl rfl, tp_pre hw [3, 4] rfl rfl⟩ rfl rfl hl.1 rfl (lv_room (Nat.le_of_ble_eq_true rfl)) d_StreamWriter_putMark_19 ⟨Nat.le_of_ble_eq_true rfl, Nat.le_of_ble_eq_true rfl⟩) hw [3, 4] [0, 1, 2, 5, 6, 7, 8] [0, 1, 2, 7, 8, 3, 4, 5, 6] rfl rfl rfl (by decide) rfl rfl (fun H locs hw => ?_)
  refine va_getsN (C := "TagPress$Chunk") (n := "MARK") (d := "[I") hx hb hw.2.2.2.2.2.2.1 hw.2.2.2.1 hown (va_Nw.use rfl (hw.2.2.2.2.1 _ nw_4)) (fun _ h => h) d_StreamWriter_putMark_22 ?_
  refine lv_astore_n (lv' := [(1, .ref tM), (0, .ref q_sw)]) hx hb d_StreamWriter_putMark_25 rfl hl (by decide +kernel) rfl (fun ls hl => ?_)
  refine lv_aload_n hx hb d_StreamWriter_putMark_26 rfl (lv_at hl 0 rfl) ?_
  refine va_tlen (v := (6 : Int32)) hx hb hw.2.2.2.2.2.2.2 hw.2.2.2.1 rfl d_StreamWriter_putMark_27 ?_
  refine lv_istore_n (lv' := [(2, .int (6 : Int32)), (1, .ref tM), (0, .ref q_sw)]) hx hb d_StreamWriter_putMark_28 rfl hl (by decide +kernel) rfl (fun ls hl => ?_)
  refine lv_iconst (v := (0 : Int32)) hx hb d_StreamWriter_putMark_29 (by decide +kernel) ?_
  refine lv_istore_n (lv' := [(3, .int (0 : Int32)), (2, .int (6 : Int32)), (1, .ref tM), (0, .ref q_sw)]) hx hb d_StreamWriter_putMark_30 rfl hl (by decide +kernel) rfl (fun ls hl => ?_)
  exact w_StreamWriter_putMark_31 hF2  N _ _ _ _ _ _ _ hm hw (lv_sub hl [3, 2, 1, 0] rfl)
end
abbrev rm_StreamWriter_putData : Room := { frames := 5, cells := 0, slots := 0, locals := 118 }
abbrev ws_StreamWriter_putData : List Cond := .code y_StreamWriter_putData c_StreamWriter_putData 6 none :: tpG
noncomputable def m_StreamWriter_putData_110 (N : Nat) (i_c : Int32) (i_f : Nat → Int32) (mt_bef : Nat → Int32) (x4 : Int32) (t_c : Int32) (t_f : Nat → Int32) (mt_from : Int32) (mt_to : Int32) (mt_len : Int32) (mt_dist : Int32) : Option (Int32 × (Nat → Int32) × Int32 × Int32 × Int32 × Int32) :=
  tp_b1 (m_Row_setNumber N (x4 + (1 : Int32)) ((t_c - x4) - (4 : Int32)) (3 : Int32) t_f) fun a_f_27 =>
  some (t_c, a_f_27, mt_from, mt_to, mt_len, mt_dist)
noncomputable def m_StreamWriter_putData (N : Nat) (x1 : Int32) (x2 : Int32) (x3 : Int32) (i_c : Int32) (i_f : Nat → Int32) (t_c : Int32) (t_f : Nat → Int32) (mt_from : Int32) (mt_to : Int32) (mt_len : Int32) (mt_dist : Int32) (mt_bef : Nat → Int32) : Option (Int32 × (Nat → Int32) × Int32 × Int32 × Int32 × Int32) :=
  tp_b2 (m_Row_put (0 : Int32) t_c t_f) fun a_c_1 a_f_2 =>
  tp_b2 (m_Row_putNumber N (0 : Int32) (3 : Int32) a_c_1 a_f_2) fun a_c_4 a_f_5 =>
  tp_b1 (m_Sums_sumOf N x1 x2 i_c i_f) fun r7 =>
  tp_b2 (m_Row_putNumber N r7 (4 : Int32) a_c_4 a_f_5) fun a_c_9 a_f_10 =>
  tp_b6 (m_BlockWriter_putBlock N x1 x2 x3 i_c i_f a_c_9 a_f_10 mt_from mt_to mt_len mt_dist mt_bef) fun t_c_12 t_f_13 mt_from_14 mt_to_15 mt_len_16 mt_dist_17 =>
  if (t_c_12 - a_c_9) < (x2 - x1) then
    m_StreamWriter_putData_110 N i_c i_f mt_bef  t_c t_c_12 t_f_13 mt_from_14 mt_to_15 mt_len_16 mt_dist_17
  else
    tp_b1 (m_Row_shorten a_c_9 t_c_12) fun a_c_20 =>
    tp_b1 (m_Row_set t_c (1 : Int32) t_f_13) fun a_f_22 =>
    tp_b2 (m_Row_putFrom N x1 x2 a_c_20 a_f_22 i_c i_f) fun a_c_24 a_f_25 =>
    m_StreamWriter_putData_110 N i_c i_f mt_bef  t_c a_c_24 a_f_25 mt_from_14 mt_to_15 mt_len_16 mt_dist_17
section
variable {p : Program} {l : Launch} {e : Env} {s : State} {m : MethodId} {args : Array Value} {below : List Frame} {meth : Method} {c : Code} {A : Nat → Prop} {D : va_G} {cB cI : ClassId} {tM : Nat}
set_option maxHeartbeats 4000000 in
set_option maxRecDepth 100000 in
theorem w_StreamWriter_putData_110 {q_sw q_i q_iB q_t q_tB q_bw q_mt q_mtb q_mtl : Nat} {i_c : Int32} {i_f : Nat → Int32} {mt_bef : Nat → Int32} {mt_lat : Nat → Int32} {N : Nat} {t_c' : Int32} {t_f' : Nat → Int32} {mt_from' : Int32} {mt_to' : Int32} {mt_len' : Int32} {mt_dist' : Int32} (hF2 : tp_F p m c c_StreamWriter_putData 6 s args tpG R_StreamWriter meth none) : ∀ (x4 : Int32) (t_c : Int32) (t_f : Nat → Int32) (mt_from : Int32) (mt_to : Int32) (mt_len : Int32) (mt_dist : Int32) (H : Heap) (locs : List Loc) (ls : Array Slot), m_StreamWriter_putData_110 N i_c i_f mt_bef  x4 t_c t_f mt_from mt_to mt_len mt_dist = some (t_c', t_f', mt_from', mt_to', mt_len', mt_dist') → tp_Wd D (tp_ty cB cI) tM A s H locs [(q_sw, .inr (5, [.ref q_i, .ref q_t, .ref q_bw])), (q_i, .inr (3, [.ref q_iB, .int i_c])), (q_iB, .inl (cB, 10000, .inl i_f)), (q_t, .inr (3, [.ref q_tB, .int t_c])), (q_tB, .inl (cB, 10000, .inl t_f)), (q_bw, .inr (1, [.ref q_i, .ref q_t, .ref q_mt])), (q_mt, .inr (2, [.ref q_i, .ref q_mtb, .ref q_mtl, .int mt_from, .int mt_to, .int mt_len, .int mt_dist])), (q_mtb, .inl (cI, 10000, .inl mt_bef)), (q_mtl, .inl (cI, 2048, .inl mt_lat))] → lv_has ls 6 [(0, .ref q_sw), (4, .int x4)] → W p l e rm_StreamWriter_putData s m args below meth c H locs 0 0 (MQ below (tp_Qv (S := Unit) D A (fun _ => [(q_sw, .inr (5, [.ref q_i, .ref q_t, .ref q_bw])), (q_i, .inr (3, [.ref q_iB, .int i_c])), (q_iB, .inl (cB, 10000, .inl i_f)), (q_t, .inr (3, [.ref q_tB, .int t_c'])), (q_tB, .inl (cB, 10000, .inl t_f')), (q_bw, .inr (1, [.ref q_i, .ref q_t, .ref q_mt])), (q_mt, .inr (2, [.ref q_i, .ref q_mtb, .ref q_mtl, .int mt_from', .int mt_to', .int mt_len', .int mt_dist'])), (q_mtb, .inl (cI, 10000, .inl mt_bef)), (q_mtl, .inl (cI, 2048, .inl mt_lat))])) args s 0 0 A) (F0 m 110 ls []) := by
  obtain ⟨hF, hr, hlocks⟩ := id hF2
  obtain ⟨hx, hb, hml, hown, hts⟩ := id hF
  intro x4 t_c t_f mt_from mt_to mt_len mt_dist H locs ls hm hw hl
  unfold m_StreamWriter_putData_110 at hm
  refine lv_aload_n hx hb d_StreamWriter_putData_110 rfl (lv_at hl 0 rfl) ?_
  refine tp_get (v := .ref q_t) (C := R_StreamWriter) (T := T_StreamWriter) hx hb hts fw_StreamWriter hown hw 0 rfl rfl 1 (by decide +kernel) (hts _ wd_113) rfl d_StreamWriter_putData_111 ?_
  refine lv_iload hx hb d_StreamWriter_putData_114 (lv_at hl 1 rfl) ?_
  refine lv_iconst (v := (1 : Int32)) hx hb d_StreamWriter_putData_116 (by decide +kernel) ?_
  refine lv_iadd hx hb d_StreamWriter_putData_117 ?_
  refine lv_aload_n hx hb d_StreamWriter_putData_118 rfl (lv_at hl 0 rfl) ?_
  refine tp_get (v := .ref q_t) (C := R_StreamWriter) (T := T_StreamWriter) hx hb hts fw_StreamWriter hown hw 0 rfl rfl 1 (by decide +kernel) (hts _ wd_113) rfl d_StreamWriter_putData_119 ?_
  refine tp_getN (v := .int t_c) (C := R_Row) (T := T_Row) hx hb hts fw_Row hown hw 3 rfl rfl 1 (by decide +kernel) nw_5 rfl d_StreamWriter_putData_122 ?_
  refine lv_iload hx hb d_StreamWriter_putData_125 (lv_at hl 1 rfl) ?_
  refine lv_isub hx hb d_StreamWriter_putData_127 ?_
  refine lv_iconst (v := (4 : Int32)) hx hb d_StreamWriter_putData_128 (by decide +kernel) ?_
  refine lv_isub hx hb d_StreamWriter_putData_129 ?_
  refine lv_iconst (v := (3 : Int32)) hx hb d_StreamWriter_putData_130 (by decide +kernel) ?_
  obtain ⟨a_f_27, hm28, hm⟩ := tp_b1_e hm
  refine tp_callv (wr := [(q_sw, .inr (5, [.ref q_i, .ref q_t, .ref q_bw])), (q_i, .inr (3, [.ref q_iB, .int i_c])), (q_iB, .inl (cB, 10000, .inl i_f)), (q_bw, .inr (1, [.ref q_i, .ref q_t, .ref q_mt])), (q_mt, .inr (2, [.ref q_i, .ref q_mtb, .ref q_mtl, .int mt_from, .int mt_to, .int mt_len, .int mt_dist])), (q_mtb, .inl (cI, 10000, .inl mt_bef)), (q_mtl, .inl (cI, 2048, .inl mt_lat))]) (WS' := [(q_sw, .inr (5, [.ref q_i, .ref q_t, .ref q_bw])), (q_i, .inr (3, [.ref q_iB, .int i_c])), (q_iB, .inl (cB, 10000, .inl i_f)), (q_t, .inr (3, [.ref q_tB, .int t_c])), (q_tB, .inl (cB, 10000, .inl a_f_27)), (q_bw, .inr (1, [.ref q_i, .ref q_t, .ref q_mt])), (q_mt, .inr (2, [.ref q_i, .ref q_mtb, .ref q_mtl, .int mt_from, .int mt_to, .int mt_len, .int mt_dist])), (q_mtb, .inl (cI, 10000, .inl mt_bef)), (q_mtl, .inl (cI, 2048, .inl mt_lat))]) (va_runV (As := [.int (x4 + (1 : Int32)), .int ((t_c - x4) - (4 : Int32)), .int (3 : Int32)]) (rest := []) hF (ct_Row_setNumber (l := l) (D := D) (cB := cB) (cI := cI) (tM := tM) (q_a := q_t) (q_aB := q_tB) (a_c := t_c) (a_f := t_f) (x1 := (x4 + (1 : Int32))) (x2 := ((t_c - x4) - (4 : Int32))) (x3 := (3 : Int32)) (N := N) (a_f' := a_f_27) hm28 _) (cwV 3 hts (tpG_V wd_132 wd_133 wd_134 wd_3 wd_131) rfl rfl rfl ⟨rfl, yd_Row_setNumber⟩ ⟨Nat.le_of_ble_eq_true rfl, Nat.le_of_ble_eq_true rfl⟩) ⟨tp_blind, va_recv hw.1 hw.2.1 (ci := 3) (q0 := 3) rfl rfl, tp_pre hw [3, 4] rfl rfl⟩ rfl rfl hl.1 rfl (lv_room (Nat.le_of_ble_eq_true rfl)) d_StreamWriter_putData_131 ⟨Nat.le_of_ble_eq_true rfl, Nat.le_of_ble_eq_true rfl⟩) hw [3, 4] [0, 1, 2, 5, 6, 7, 8] [0, 1, 2, 7, 8, 3, 4, 5, 6] rfl rfl rfl (by decide) rfl rfl (fun H locs hw => ?_)
  obtain ⟨rfl, rfl, rfl, rfl, rfl, rfl⟩ := tp_inj6 hm
  exact tp_vret () hx hb hr hlocks hw d_StreamWriter_putData_134
set_option maxHeartbeats 4000000 in
set_option maxRecDepth 100000 in
theorem ct_StreamWriter_putData {q_sw q_i q_iB q_t q_tB q_bw q_mt q_mtb q_mtl : Nat} {i_c : Int32} {i_f : Nat → Int32} {t_c : Int32} {t_f : Nat → Int32} {mt_from : Int32} {mt_to : Int32} {mt_len : Int32} {mt_dist : Int32} {mt_bef : Nat → Int32} {mt_lat : Nat → Int32} {N : Nat} {x1 : Int32} {x2 : Int32} {x3 : Int32} {t_c' : Int32} {t_f' : Nat → Int32} {mt_from' : Int32} {mt_to' : Int32} {mt_len' : Int32} {mt_dist' : Int32} (hm : m_StreamWriter_putData N x1 x2 x3 i_c i_f t_c t_f mt_from mt_to mt_len mt_dist mt_bef = some (t_c', t_f', mt_from', mt_to', mt_len', mt_dist')) (sz : Nat) : tp_Cv l y_StreamWriter_putData ws_StreamWriter_putData rm_StreamWriter_putData D (tp_ty cB cI) tM [.ref q_sw, .int x1, .int x2, .int x3] [(q_sw, .inr (5, [.ref q_i, .ref q_t, .ref q_bw])), (q_i, .inr (3, [.ref q_iB, .int i_c])), (q_iB, .inl (cB, 10000, .inl i_f)), (q_t, .inr (3, [.ref q_tB, .int t_c])), (q_tB, .inl (cB, 10000, .inl t_f)), (q_bw, .inr (1, [.ref q_i, .ref q_t, .ref q_mt])), (q_mt, .inr (2, [.ref q_i, .ref q_mtb, .ref q_mtl, .int mt_from, .int mt_to, .int mt_len, .int mt_dist])), (q_mtb, .inl (cI, 10000, .inl mt_bef)), (q_mtl, .inl (cI, 2048, .inl mt_lat))] sz [(q_sw, .inr (5, [.ref q_i, .ref q_t, .ref q_bw])), (q_i, .inr (3, [.ref q_iB, .int i_c])), (q_iB, .inl (cB, 10000, .inl i_f)), (q_t, .inr (3, [.ref q_tB, .int t_c'])), (q_tB, .inl (cB, 10000, .inl t_f')), (q_bw, .inr (1, [.ref q_i, .ref q_t, .ref q_mt])), (q_mt, .inr (2, [.ref q_i, .ref q_mtb, .ref q_mtl, .int mt_from', .int mt_to', .int mt_len', .int mt_dist'])), (q_mtb, .inl (cI, 10000, .inl mt_bef)), (q_mtl, .inl (cI, 2048, .inl mt_lat))] := by
  refine Met.ofW (cc := c_StreamWriter_putData) (maxL := 6) (ret := none) (by decide) rfl ?_
  intro p e s m args below meth c s₁ B hml hv
  obtain ⟨rfl, hv⟩ := hv
  have hw := tp_entry hv
  generalize va_A [(q_sw, .inr (5, [.ref q_i, .ref q_t, .ref q_bw])), (q_i, .inr (3, [.ref q_iB, .int i_c])), (q_iB, .inl (cB, 10000, .inl i_f)), (q_t, .inr (3, [.ref q_tB, .int t_c])), (q_tB, .inl (cB, 10000, .inl t_f)), (q_bw, .inr (1, [.ref q_i, .ref q_t, .ref q_mt])), (q_mt, .inr (2, [.ref q_i, .ref q_mtb, .ref q_mtl, .int mt_from, .int mt_to, .int mt_len, .int mt_dist])), (q_mtb, .inl (cI, 10000, .inl mt_bef)), (q_mtl, .inl (cI, 2048, .inl mt_lat))] sz = A at hw ⊢
  have hx := B.exec
  have hb := B.bytes
  have hr := B.returns
  have hts0 := atoms_spec (ws := ws_StreamWriter_putData) B.pre
  have hts := fun w h => hts0 w (List.mem_cons_of_mem _ h)
  have hown : s.vm.findClass R_StreamWriter = some m.cls := findClass_of_methodNamed B.named
  have hlocks := B.notSynchronized
  have hF : CallFix p m c c_StreamWriter_putData 6 s _ tpG R_StreamWriter := ⟨hx, hb, hml, hown, hts⟩
  have hF2 : tp_F p m c c_StreamWriter_putData 6 s _ tpG R_StreamWriter meth none := ⟨hF, hr, hlocks⟩
  have hl := lv_entry ([.ref q_sw, .int x1, .int x2, .int x3]) (n := 6) (Nat.le_of_ble_eq_true rfl)
  rw [lg_entry_eq]
  generalize (lg_sl ([.ref q_sw, .int x1, .int x2, .int x3]) ++ List.replicate (6 - (lg_sl ([.ref q_sw, .int x1, .int x2, .int x3])).length) Slot.unset).toArray = ls at hl ⊢
  replace hl : lv_has ls 6 [(0, .ref q_sw), (1, .int x1), (2, .int x2), (3, .int x3)] := hl
  unfold m_StreamWriter_putData at hm
  refine lv_aload_n hx hb d_StreamWriter_putData_0 rfl (lv_at hl 0 rfl) ?_
  refine tp_get (v := .ref q_t) (C := R_StreamWriter) (T := T_StreamWriter) hx hb hts fw_StreamWriter hown hw 0 rfl rfl 1 (by decide +kernel) (hts _ wd_113) rfl d_StreamWriter_putData_1 ?_
  refine tp_getN (v := .int t_c) (C := R_Row) (T := T_Row) hx hb hts fw_Row hown hw 3 rfl rfl 1 (by decide +kernel) nw_5 rfl d_StreamWriter_putData_4 ?_
  refine lv_istore (lv' := [(4, .int t_c), (0, .ref q_sw), (1, .int x1), (2, .int x2), (3, .int x3)]) hx hb d_StreamWriter_putData_7 hl (by decide +kernel) rfl (fun ls hl => ?_)
  refine lv_aload_n hx hb d_StreamWriter_putData_9 rfl (lv_at hl 1 rfl) ?_
  refine tp_get (v := .ref q_t) (C := R_StreamWriter) (T := T_StreamWriter) hx hb hts fw_StreamWriter hown hw 0 rfl rfl 1 (by decide +kernel) (hts _ wd_113) rfl d_StreamWriter_putData_10 ?_
  refine lv_iconst (v := (0 : Int32)) hx hb d_StreamWriter_putData_13 (by decide +kernel) ?_
  obtain ⟨a_c_1, a_f_2, hm3, hm⟩ := tp_b2_e hm
  refine tp_callv (wr := [(q_sw, .inr (5, [.ref q_i, .ref q_t, .ref q_bw])), (q_i, .inr (3, [.ref q_iB, .int i_c])), (q_iB, .inl (cB, 10000, .inl i_f)), (q_bw, .inr (1, [.ref q_i, .ref q_t, .ref q_mt])), (q_mt, .inr (2, [.ref q_i, .ref q_mtb, .ref q_mtl, .int mt_from, .int mt_to, .int mt_len, .int mt_dist])), (q_mtb, .inl (cI, 10000, .inl mt_bef)), (q_mtl, .inl (cI, 2048, .inl mt_lat))]) (WS' := [(q_sw, .inr (5, [.ref q_i, .ref q_t, .ref q_bw])), (q_i, .inr (3, [.ref q_iB, .int i_c])), (q_iB, .inl (cB, 10000, .inl i_f)), (q_t, .inr (3, [.ref q_tB, .int a_c_1])), (q_tB, .inl (cB, 10000, .inl a_f_2)), (q_bw, .inr (1, [.ref q_i, .ref q_t, .ref q_mt])), (q_mt, .inr (2, [.ref q_i, .ref q_mtb, .ref q_mtl, .int mt_from, .int mt_to, .int mt_len, .int mt_dist])), (q_mtb, .inl (cI, 10000, .inl mt_bef)), (q_mtl, .inl (cI, 2048, .inl mt_lat))]) (va_runV (As := [.int (0 : Int32)]) (rest := []) hF (ct_Row_put (l := l) (D := D) (cB := cB) (cI := cI) (tM := tM) (q_a := q_t) (q_aB := q_tB) (a_c := t_c) (a_f := t_f) (x1 := (0 : Int32)) (a_c' := a_c_1) (a_f' := a_f_2) hm3 _) (cwV 1 hts (tpG_V wd_114 wd_5 wd_6 wd_3 wd_2) rfl rfl rfl ⟨rfl, yd_Row_put⟩ ⟨Nat.le_of_ble_eq_true rfl, Nat.le_of_ble_eq_true rfl⟩) ⟨tp_blind, va_recv hw.1 hw.2.1 (ci := 3) (q0 := 3) rfl rfl, tp_pre hw [3, 4] rfl rfl⟩ rfl rfl hl.1 rfl (lv_room (Nat.le_of_ble_eq_true rfl)) d_StreamWriter_putData_14 ⟨Nat.le_of_ble_eq_true rfl, Nat.le_of_ble_eq_true rfl⟩) hw [3, 4] [0, 1, 2, 5, 6, 7, 8] [0, 1, 2, 7, 8, 3, 4, 5, 6] rfl rfl rfl (by decide) rfl rfl (fun H locs hw => ?_)
  refine lv_aload_n hx hb d_StreamWriter_putData_17 rfl (lv_at hl 1 rfl) ?_
  refine tp_get (v := .ref q_t) (C := R_StreamWriter) (T := T_StreamWriter) hx hb hts fw_StreamWriter hown hw 0 rfl rfl 1 (by decide +kernel) (hts _ wd_113) rfl d_StreamWriter_putData_18 ?_
  refine lv_iconst (v := (0 : Int32)) hx hb d_StreamWriter_putData_21 (by decide +kernel) ?_
  refine lv_iconst (v := (3 : Int32)) hx hb d_StreamWriter_putData_22 (by decide +kernel) ?_
  obtain ⟨a_c_4, a_f_5, hm6, hm⟩ := tp_b2_e hm
  refine tp_callv (wr := [(q_sw, .inr (5, [.ref q_i, .ref q_t, .ref q_bw])), (q_i, .inr (3, [.ref q_iB, .int i_c])), (q_iB, .inl (cB, 10000, .inl i_f)), (q_bw, .inr (1, [.ref q_i, .ref q_t, .ref q_mt])), (q_mt, .inr (2, [.ref q_i, .ref q_mtb, .ref q_mtl, .int mt_from, .int mt_to, .int mt_len, .int mt_dist])), (q_mtb, .inl (cI, 10000, .inl mt_bef)), (q_mtl, .inl (cI, 2048, .inl mt_lat))]) (WS' := [(q_sw, .inr (5, [.ref q_i, .ref q_t, .ref q_bw])), (q_i, .inr (3, [.ref q_iB, .int i_c])), (q_iB, .inl (cB, 10000, .inl i_f)), (q_t, .inr (3, [.ref q_tB, .int a_c_4])), (q_tB, .inl (cB, 10000, .inl a_f_5)), (q_bw, .inr (1, [.ref q_i, .ref q_t, .ref q_mt])), (q_mt, .inr (2, [.ref q_i, .ref q_mtb, .ref q_mtl, .int mt_from, .int mt_to, .int mt_len, .int mt_dist])), (q_mtb, .inl (cI, 10000, .inl mt_bef)), (q_mtl, .inl (cI, 2048, .inl mt_lat))]) (va_runV (As := [.int (0 : Int32), .int (3 : Int32)]) (rest := []) hF (ct_Row_putNumber (l := l) (D := D) (cB := cB) (cI := cI) (tM := tM) (q_a := q_t) (q_aB := q_tB) (a_c := a_c_1) (a_f := a_f_2) (x1 := (0 : Int32)) (x2 := (3 : Int32)) (N := N) (a_c' := a_c_4) (a_f' := a_f_5) hm6 _) (cwV 2 hts (tpG_V wd_115 wd_83 wd_84 wd_3 wd_81) rfl rfl rfl ⟨rfl, yd_Row_putNumber⟩ ⟨Nat.le_of_ble_eq_true rfl, Nat.le_of_ble_eq_true rfl⟩) ⟨tp_blind, va_recv hw.1 hw.2.1 (ci := 3) (q0 := 3) rfl rfl, tp_pre hw [3, 4] rfl rfl⟩ rfl rfl hl.1 rfl (lv_room (Nat.le_of_ble_eq_true rfl)) d_StreamWriter_putData_23 ⟨Nat.le_of_ble_eq_true rfl, Nat.le_of_ble_eq_true rfl⟩) hw [3, 4] [0, 1, 2, 5, 6, 7, 8] [0, 1, 2, 7, 8, 3, 4, 5, 6] rfl rfl rfl (by decide) rfl rfl (fun H locs hw => ?_)
  refine lv_aload_n hx hb d_StreamWriter_putData_26 rfl (lv_at hl 1 rfl) ?_
  refine tp_get (v := .ref q_t) (C := R_StreamWriter) (T := T_StreamWriter) hx hb hts fw_StreamWriter hown hw 0 rfl rfl 1 (by decide +kernel) (hts _ wd_113) rfl d_StreamWriter_putData_27 ?_
  refine lv_aload_n hx hb d_StreamWriter_putData_30 rfl (lv_at hl 1 rfl) ?_
  refine tp_get (v := .ref q_i) (C := R_StreamWriter) (T := T_StreamWriter) hx hb hts fw_StreamWriter hown hw 0 rfl rfl 0 (by decide +kernel) (hts _ wd_116) rfl d_StreamWriter_putData_31 ?_
  refine lv_iload_n hx hb d_StreamWriter_putData_34 rfl (lv_at hl 2 rfl) ?_
  refine lv_iload_n hx hb d_StreamWriter_putData_35 rfl (lv_at hl 3 rfl) ?_
  obtain ⟨r7, hm8, hm⟩ := tp_b1_e hm
  refine tp_calli (wr := [(q_sw, .inr (5, [.ref q_i, .ref q_t, .ref q_bw])), (q_t, .inr (3, [.ref q_tB, .int a_c_4])), (q_tB, .inl (cB, 10000, .inl a_f_5)), (q_bw, .inr (1, [.ref q_i, .ref q_t, .ref q_mt])), (q_mt, .inr (2, [.ref q_i, .ref q_mtb, .ref q_mtl, .int mt_from, .int mt_to, .int mt_len, .int mt_dist])), (q_mtb, .inl (cI, 10000, .inl mt_bef)), (q_mtl, .inl (cI, 2048, .inl mt_lat))]) (WS' := [(q_sw, .inr (5, [.ref q_i, .ref q_t, .ref q_bw])), (q_i, .inr (3, [.ref q_iB, .int i_c])), (q_iB, .inl (cB, 10000, .inl i_f)), (q_t, .inr (3, [.ref q_tB, .int a_c_4])), (q_tB, .inl (cB, 10000, .inl a_f_5)), (q_bw, .inr (1, [.ref q_i, .ref q_t, .ref q_mt])), (q_mt, .inr (2, [.ref q_i, .ref q_mtb, .ref q_mtl, .int mt_from, .int mt_to, .int mt_len, .int mt_dist])), (q_mtb, .inl (cI, 10000, .inl mt_bef)), (q_mtl, .inl (cI, 2048, .inl mt_lat))]) (va_runS (As := [.ref q_i, .int x1, .int x2]) (rest := [.ref q_t]) hF (ct_Sums_sumOf (l := l) (D := D) (cB := cB) (cI := cI) (tM := tM) (q_b := q_i) (q_bB := q_iB) (b_c := i_c) (b_f := i_f) (x1 := x1) (x2 := x2) (N := N) (r := r7) hm8 _) (va_cwS 3 hts (tpG_S wd_118 wd_119 wd_27 wd_117) rfl rfl rfl yd_Sums_sumOf ⟨Nat.le_of_ble_eq_true rfl, Nat.le_of_ble_eq_true rfl⟩) ⟨tp_blind, tp_pre hw [1, 2] rfl rfl⟩ rfl rfl hl.1 rfl (lv_room (Nat.le_of_ble_eq_true rfl)) d_StreamWriter_putData_36 ⟨Nat.le_of_ble_eq_true rfl, Nat.le_of_ble_eq_true rfl⟩) hw [1, 2] [0, 3, 4, 5, 6, 7, 8] [0, 7, 8, 1, 2, 3, 4, 5, 6] rfl rfl rfl (by decide) rfl rfl (fun H locs hw => ?_)
  refine lv_iconst (v := (4 : Int32)) hx hb d_StreamWriter_putData_39 (by decide +kernel) ?_
  obtain ⟨a_c_9, a_f_10, hm11, hm⟩ := tp_b2_e hm
  refine tp_callv (wr := [(q_sw, .inr (5, [.ref q_i, .ref q_t, .ref q_bw])), (q_i, .inr (3, [.ref q_iB, .int i_c])), (q_iB, .inl (cB, 10000, .inl i_f)), (q_bw, .inr (1, [.ref q_i, .ref q_t, .ref q_mt])), (q_mt, .inr (2, [.ref q_i, .ref q_mtb, .ref q_mtl, .int mt_from, .int mt_to, .int mt_len, .int mt_dist])), (q_mtb, .inl (cI, 10000, .inl mt_bef)), (q_mtl, .inl (cI, 2048, .inl mt_lat))]) (WS' := [(q_sw, .inr (5, [.ref q_i, .ref q_t, .ref q_bw])), (q_i, .inr (3, [.ref q_iB, .int i_c])), (q_iB, .inl (cB, 10000, .inl i_f)), (q_t, .inr (3, [.ref q_tB, .int a_c_9])), (q_tB, .inl (cB, 10000, .inl a_f_10)), (q_bw, .inr (1, [.ref q_i, .ref q_t, .ref q_mt])), (q_mt, .inr (2, [.ref q_i, .ref q_mtb, .ref q_mtl, .int mt_from, .int mt_to, .int mt_len, .int mt_dist])), (q_mtb, .inl (cI, 10000, .inl mt_bef)), (q_mtl, .inl (cI, 2048, .inl mt_lat))]) (va_runV (As := [.int r7, .int (4 : Int32)]) (rest := []) hF (ct_Row_putNumber (l := l) (D := D) (cB := cB) (cI := cI) (tM := tM) (q_a := q_t) (q_aB := q_tB) (a_c := a_c_4) (a_f := a_f_5) (x1 := r7) (x2 := (4 : Int32)) (N := N) (a_c' := a_c_9) (a_f' := a_f_10) hm11 _) (cwV 2 hts (tpG_V wd_115 wd_83 wd_84 wd_3 wd_81) rfl rfl rfl ⟨rfl, yd_Row_putNumber⟩ ⟨Nat.le_of_ble_eq_true rfl, Nat.le_of_ble_eq_true rfl⟩) ⟨tp_blind, va_recv hw.1 hw.2.1 (ci := 3) (q0 := 3) rfl rfl, tp_pre hw [3, 4] rfl rfl⟩ rfl rfl hl.1 rfl (lv_room (Nat.le_of_ble_eq_true rfl)) d_StreamWriter_putData_40 ⟨Nat.le_of_ble_eq_true rfl, Nat.le_of_ble_eq_true rfl⟩) hw [3, 4] [0, 1, 2, 5, 6, 7, 8] [0, 1, 2, 7, 8, 3, 4, 5, 6] rfl rfl rfl (by decide) rfl rfl (fun H locs hw => ?_)
  refine lv_aload_n hx hb d_StreamWriter_putData_43 rfl (lv_at hl 1 rfl) ?_
  refine tp_get (v := .ref q_t) (C := R_StreamWriter) (T := T_StreamWriter) hx hb hts fw_StreamWriter hown hw 0 rfl rfl 1 (by decide +kernel) (hts _ wd_113) rfl d_StreamWriter_putData_44 ?_
  refine tp_getN (v := .int a_c_9) (C := R_Row) (T := T_Row) hx hb hts fw_Row hown hw 3 rfl rfl 1 (by decide +kernel) nw_5 rfl d_StreamWriter_putData_47 ?_
  refine lv_istore (lv' := [(5, .int a_c_9), (4, .int t_c), (0, .ref q_sw), (1, .int x1), (2, .int x2), (3, .int x3)]) hx hb d_StreamWriter_putData_50 hl (by decide +kernel) rfl (fun ls hl => ?_)
  refine lv_aload_n hx hb d_StreamWriter_putData_52 rfl (lv_at hl 2 rfl) ?_
  refine tp_get (v := .ref q_bw) (C := R_StreamWriter) (T := T_StreamWriter) hx hb hts fw_StreamWriter hown hw 0 rfl rfl 2 (by decide +kernel) (hts _ wd_120) rfl d_StreamWriter_putData_53 ?_
  refine lv_iload_n hx hb d_StreamWriter_putData_56 rfl (lv_at hl 3 rfl) ?_
  refine lv_iload_n hx hb d_StreamWriter_putData_57 rfl (lv_at hl 4 rfl) ?_
  refine lv_iload_n hx hb d_StreamWriter_putData_58 rfl (lv_at hl 5 rfl) ?_
  obtain ⟨t_c_12, t_f_13, mt_from_14, mt_to_15, mt_len_16, mt_dist_17, hm18, hm⟩ := tp_b6_e hm
  refine tp_callv (wr := [(q_sw, .inr (5, [.ref q_i, .ref q_t, .ref q_bw]))]) (WS' := [(q_sw, .inr (5, [.ref q_i, .ref q_t, .ref q_bw])), (q_i, .inr (3, [.ref q_iB, .int i_c])), (q_iB, .inl (cB, 10000, .inl i_f)), (q_t, .inr (3, [.ref q_tB, .int t_c_12])), (q_tB, .inl (cB, 10000, .inl t_f_13)), (q_bw, .inr (1, [.ref q_i, .ref q_t, .ref q_mt])), (q_mt, .inr (2, [.ref q_i, .ref q_mtb, .ref q_mtl, .int mt_from_14, .int mt_to_15, .int mt_len_16, .int mt_dist_17])), (q_mtb, .inl (cI, 10000, .inl mt_bef)), (q_mtl, .inl (cI, 2048, .inl mt_lat))]) (va_runV (As := [.int x1, .int x2, .int x3]) (rest := []) hF (ct_BlockWriter_putBlock (l := l) (D := D) (cB := cB) (cI := cI) (tM := tM) (q_bw := q_bw) (q_i := q_i) (q_iB := q_iB) (q_t := q_t) (q_tB := q_tB) (q_mt := q_mt) (q_mtb := q_mtb) (q_mtl := q_mtl) (i_c := i_c) (i_f := i_f) (t_c := a_c_9) (t_f := a_f_10) (mt_from := mt_from) (mt_to := mt_to) (mt_len := mt_len) (mt_dist := mt_dist) (mt_bef := mt_bef) (mt_lat := mt_lat) (x1 := x1) (x2 := x2) (x3 := x3) (N := N) (t_c' := t_c_12) (t_f' := t_f_13) (mt_from' := mt_from_14) (mt_to' := mt_to_15) (mt_len' := mt_len_16) (mt_dist' := mt_dist_17) hm18 _) (cwV 3 hts (tpG_V wd_122 wd_123 wd_124 wd_97 wd_121) rfl rfl rfl ⟨rfl, yd_BlockWriter_putBlock⟩ ⟨Nat.le_of_ble_eq_true rfl, Nat.le_of_ble_eq_true rfl⟩) ⟨tp_blind, va_recv hw.1 hw.2.1 (ci := 1) (q0 := 5) rfl rfl, tp_pre hw [5, 1, 2, 3, 4, 6, 7, 8] rfl rfl⟩ rfl rfl hl.1 rfl (lv_room (Nat.le_of_ble_eq_true rfl)) d_StreamWriter_putData_59 ⟨Nat.le_of_ble_eq_true rfl, Nat.le_of_ble_eq_true rfl⟩) hw [5, 1, 2, 3, 4, 6, 7, 8] [0] [0, 2, 3, 4, 5, 1, 6, 7, 8] rfl rfl rfl (by decide) rfl rfl (fun H locs hw => ?_)
  refine lv_aload_n hx hb d_StreamWriter_putData_62 rfl (lv_at hl 2 rfl) ?_
  refine tp_get (v := .ref q_t) (C := R_StreamWriter) (T := T_StreamWriter) hx hb hts fw_StreamWriter hown hw 0 rfl rfl 1 (by decide +kernel) (hts _ wd_113) rfl d_StreamWriter_putData_63 ?_
  refine tp_getN (v := .int t_c_12) (C := R_Row) (T := T_Row) hx hb hts fw_Row hown hw 3 rfl rfl 1 (by decide +kernel) nw_5 rfl d_StreamWriter_putData_66 ?_
  refine lv_iload hx hb d_StreamWriter_putData_69 (lv_at hl 0 rfl) ?_
  refine lv_isub hx hb d_StreamWriter_putData_71 ?_
  refine lv_iload_n hx hb d_StreamWriter_putData_72 rfl (lv_at hl 4 rfl) ?_
  refine lv_iload_n hx hb d_StreamWriter_putData_73 rfl (lv_at hl 3 rfl) ?_
  refine lv_isub hx hb d_StreamWriter_putData_74 ?_
  refine lv_icmp_lt (tgt := 110) hx hb d_StreamWriter_putData_75 (by decide +kernel) (fun hc19 => ?_) (fun hc19 => ?_)
  · replace hm := tp_it hc19 hm
    exact w_StreamWriter_putData_110 hF2  _ _ _ _ _ _ _ _ _ _ hm hw (lv_sub hl [2, 1] rfl)
  · replace hm := tp_if hc19 hm
    refine lv_aload_n hx hb d_StreamWriter_putData_78 rfl (lv_at hl 2 rfl) ?_
    refine tp_get (v := .ref q_t) (C := R_StreamWriter) (T := T_StreamWriter) hx hb hts fw_StreamWriter hown hw 0 rfl rfl 1 (by decide +kernel) (hts _ wd_113) rfl d_StreamWriter_putData_79 ?_
    refine lv_iload hx hb d_StreamWriter_putData_82 (lv_at hl 0 rfl) ?_
    obtain ⟨a_c_20, hm21, hm⟩ := tp_b1_e hm
    refine tp_callv (wr := [(q_sw, .inr (5, [.ref q_i, .ref q_t, .ref q_bw])), (q_i, .inr (3, [.ref q_iB, .int i_c])), (q_iB, .inl (cB, 10000, .inl i_f)), (q_bw, .inr (1, [.ref q_i, .ref q_t, .ref q_mt])), (q_mt, .inr (2, [.ref q_i, .ref q_mtb, .ref q_mtl, .int mt_from_14, .int mt_to_15, .int mt_len_16, .int mt_dist_17])), (q_mtb, .inl (cI, 10000, .inl mt_bef)), (q_mtl, .inl (cI, 2048, .inl mt_lat))]) (WS' := [(q_sw, .inr (5, [.ref q_i, .ref q_t, .ref q_bw])), (q_i, .inr (3, [.ref q_iB, .int i_c])), (q_iB, .inl (cB, 10000, .inl i_f)), (q_t, .inr (3, [.ref q_tB, .int a_c_20])), (q_tB, .inl (cB, 10000, .inl t_f_13)), (q_bw, .inr (1, [.ref q_i, .ref q_t, .ref q_mt])), (q_mt, .inr (2, [.ref q_i, .ref q_mtb, .ref q_mtl, .int mt_from_14, .int mt_to_15, .int mt_len_16, .int mt_dist_17])), (q_mtb, .inl (cI, 10000, .inl mt_bef)), (q_mtl, .inl (cI, 2048, .inl mt_lat))]) (va_runV (As := [.int a_c_9]) (rest := []) hF (ct_Row_shorten (l := l) (D := D) (cB := cB) (cI := cI) (tM := tM) (q_a := q_t) (q_aB := q_tB) (a_c := t_c_12) (a_f := t_f_13) (x1 := a_c_9) (a_c' := a_c_20) hm21 _) (cwV 1 hts (tpG_V wd_126 wd_127 wd_128 wd_3 wd_125) rfl rfl rfl ⟨rfl, yd_Row_shorten⟩ ⟨Nat.le_of_ble_eq_true rfl, Nat.le_of_ble_eq_true rfl⟩) ⟨tp_blind, va_recv hw.1 hw.2.1 (ci := 3) (q0 := 3) rfl rfl, tp_pre hw [3, 4] rfl rfl⟩ rfl rfl hl.1 rfl (lv_room (Nat.le_of_ble_eq_true rfl)) d_StreamWriter_putData_84 ⟨Nat.le_of_ble_eq_true rfl, Nat.le_of_ble_eq_true rfl⟩) hw [3, 4] [0, 1, 2, 5, 6, 7, 8] [0, 1, 2, 7, 8, 3, 4, 5, 6] rfl rfl rfl (by decide) rfl rfl (fun H locs hw => ?_)
    refine lv_aload_n hx hb d_StreamWriter_putData_87 rfl (lv_at hl 2 rfl) ?_
    refine tp_get (v := .ref q_t) (C := R_StreamWriter) (T := T_StreamWriter) hx hb hts fw_StreamWriter hown hw 0 rfl rfl 1 (by decide +kernel) (hts _ wd_113) rfl d_StreamWriter_putData_88 ?_
    refine lv_iload hx hb d_StreamWriter_putData_91 (lv_at hl 1 rfl) ?_
    refine lv_iconst (v := (1 : Int32)) hx hb d_StreamWriter_putData_93 (by decide +kernel) ?_
    obtain ⟨a_f_22, hm23, hm⟩ := tp_b1_e hm
    refine tp_callv (wr := [(q_sw, .inr (5, [.ref q_i, .ref q_t, .ref q_bw])), (q_i, .inr (3, [.ref q_iB, .int i_c])), (q_iB, .inl (cB, 10000, .inl i_f)), (q_bw, .inr (1, [.ref q_i, .ref q_t, .ref q_mt])), (q_mt, .inr (2, [.ref q_i, .ref q_mtb, .ref q_mtl, .int mt_from_14, .int mt_to_15, .int mt_len_16, .int mt_dist_17])), (q_mtb, .inl (cI, 10000, .inl mt_bef)), (q_mtl, .inl (cI, 2048, .inl mt_lat))]) (WS' := [(q_sw, .inr (5, [.ref q_i, .ref q_t, .ref q_bw])), (q_i, .inr (3, [.ref q_iB, .int i_c])), (q_iB, .inl (cB, 10000, .inl i_f)), (q_t, .inr (3, [.ref q_tB, .int a_c_20])), (q_tB, .inl (cB, 10000, .inl a_f_22)), (q_bw, .inr (1, [.ref q_i, .ref q_t, .ref q_mt])), (q_mt, .inr (2, [.ref q_i, .ref q_mtb, .ref q_mtl, .int mt_from_14, .int mt_to_15, .int mt_len_16, .int mt_dist_17])), (q_mtb, .inl (cI, 10000, .inl mt_bef)), (q_mtl, .inl (cI, 2048, .inl mt_lat))]) (va_runV (As := [.int t_c, .int (1 : Int32)]) (rest := []) hF (ct_Row_set (l := l) (D := D) (cB := cB) (cI := cI) (tM := tM) (q_a := q_t) (q_aB := q_tB) (a_c := a_c_20) (a_f := t_f_13) (x1 := t_c) (x2 := (1 : Int32)) (a_f' := a_f_22) hm23 _) (cwV 2 hts (tpG_V wd_129 wd_9 wd_10 wd_3 wd_7) rfl rfl rfl ⟨rfl, yd_Row_set⟩ ⟨Nat.le_of_ble_eq_true rfl, Nat.le_of_ble_eq_true rfl⟩) ⟨tp_blind, va_recv hw.1 hw.2.1 (ci := 3) (q0 := 3) rfl rfl, tp_pre hw [3, 4] rfl rfl⟩ rfl rfl hl.1 rfl (lv_room (Nat.le_of_ble_eq_true rfl)) d_StreamWriter_putData_94 ⟨Nat.le_of_ble_eq_true rfl, Nat.le_of_ble_eq_true rfl⟩) hw [3, 4] [0, 1, 2, 5, 6, 7, 8] [0, 1, 2, 7, 8, 3, 4, 5, 6] rfl rfl rfl (by decide) rfl rfl (fun H locs hw => ?_)
    refine lv_aload_n hx hb d_StreamWriter_putData_97 rfl (lv_at hl 2 rfl) ?_
    refine tp_get (v := .ref q_t) (C := R_StreamWriter) (T := T_StreamWriter) hx hb hts fw_StreamWriter hown hw 0 rfl rfl 1 (by decide +kernel) (hts _ wd_113) rfl d_StreamWriter_putData_98 ?_
    refine lv_aload_n hx hb d_StreamWriter_putData_101 rfl (lv_at hl 2 rfl) ?_
    refine tp_get (v := .ref q_i) (C := R_StreamWriter) (T := T_StreamWriter) hx hb hts fw_StreamWriter hown hw 0 rfl rfl 0 (by decide +kernel) (hts _ wd_116) rfl d_StreamWriter_putData_102 ?_
    refine lv_iload_n hx hb d_StreamWriter_putData_105 rfl (lv_at hl 3 rfl) ?_
    refine lv_iload_n hx hb d_StreamWriter_putData_106 rfl (lv_at hl 4 rfl) ?_
    obtain ⟨a_c_24, a_f_25, hm26, hm⟩ := tp_b2_e hm
    refine tp_callv (wr := [(q_sw, .inr (5, [.ref q_i, .ref q_t, .ref q_bw])), (q_bw, .inr (1, [.ref q_i, .ref q_t, .ref q_mt])), (q_mt, .inr (2, [.ref q_i, .ref q_mtb, .ref q_mtl, .int mt_from_14, .int mt_to_15, .int mt_len_16, .int mt_dist_17])), (q_mtb, .inl (cI, 10000, .inl mt_bef)), (q_mtl, .inl (cI, 2048, .inl mt_lat))]) (WS' := [(q_sw, .inr (5, [.ref q_i, .ref q_t, .ref q_bw])), (q_i, .inr (3, [.ref q_iB, .int i_c])), (q_iB, .inl (cB, 10000, .inl i_f)), (q_t, .inr (3, [.ref q_tB, .int a_c_24])), (q_tB, .inl (cB, 10000, .inl a_f_25)), (q_bw, .inr (1, [.ref q_i, .ref q_t, .ref q_mt])), (q_mt, .inr (2, [.ref q_i, .ref q_mtb, .ref q_mtl, .int mt_from_14, .int mt_to_15, .int mt_len_16, .int mt_dist_17])), (q_mtb, .inl (cI, 10000, .inl mt_bef)), (q_mtl, .inl (cI, 2048, .inl mt_lat))]) (va_runV (As := [.ref q_i, .int x1, .int x2]) (rest := []) hF (ct_Row_putFrom (l := l) (D := D) (cB := cB) (cI := cI) (tM := tM) (q_a := q_t) (q_aB := q_tB) (q_b := q_i) (q_bB := q_iB) (a_c := a_c_20) (a_f := a_f_22) (b_c := i_c) (b_f := i_f) (x2 := x1) (x3 := x2) (N := N) (a_c' := a_c_24) (a_f' := a_f_25) hm26 _) (cwV 3 hts (tpG_V wd_130 wd_88 wd_89 wd_3 wd_86) rfl rfl rfl ⟨rfl, yd_Row_putFrom⟩ ⟨Nat.le_of_ble_eq_true rfl, Nat.le_of_ble_eq_true rfl⟩) ⟨tp_blind, va_recv hw.1 hw.2.1 (ci := 3) (q0 := 3) rfl rfl, tp_pre hw [3, 4, 1, 2] rfl rfl⟩ rfl rfl hl.1 rfl (lv_room (Nat.le_of_ble_eq_true rfl)) d_StreamWriter_putData_107 ⟨Nat.le_of_ble_eq_true rfl, Nat.le_of_ble_eq_true rfl⟩) hw [3, 4, 1, 2] [0, 5, 6, 7, 8] [0, 7, 8, 5, 6, 1, 2, 3, 4] rfl rfl rfl (by decide) rfl rfl (fun H locs hw => ?_)
    exact w_StreamWriter_putData_110 hF2  _ _ _ _ _ _ _ _ _ _ hm hw (lv_sub hl [2, 1] rfl)
end
abbrev rm_StreamWriter_putSpare : Room := { frames := 2, cells := 0, slots := 0, locals := 44 }
abbrev ws_StreamWriter_putSpare : List Cond := .code y_StreamWriter_putSpare c_StreamWriter_putSpare 3 none :: tpG
noncomputable def m_StreamWriter_putSpare_21 (N : Nat) (rec21 : Int32 → Int32 → Int32 → (Nat → Int32) → Option (Int32 × (Nat → Int32))) (x1 : Int32) (x2 : Int32) (t_c : Int32) (t_f : Nat → Int32) : Option (Int32 × (Nat → Int32)) :=
  if x1 ≤ x2 then
    some (t_c, t_f)
  else
    tp_b2 (m_Row_put (0 : Int32) t_c t_f) fun a_c_8 a_f_9 =>
    rec21 x1 (x2 + (1 : Int32)) a_c_8 a_f_9
noncomputable def m_StreamWriter_putSpare (N : Nat) (x1 : Int32) (t_c : Int32) (t_f : Nat → Int32) : Option (Int32 × (Nat → Int32)) :=
  tp_b2 (m_Row_put (254 : Int32) t_c t_f) fun a_c_1 a_f_2 =>
  tp_b2 (m_Row_putNumber N x1 (3 : Int32) a_c_1 a_f_2) fun a_c_4 a_f_5 =>
  tp_it4 (m_StreamWriter_putSpare_21 N ) N x1 (0 : Int32) a_c_4 a_f_5
section
variable {p : Program} {l : Launch} {e : Env} {s : State} {m : MethodId} {args : Array Value} {below : List Frame} {meth : Method} {c : Code} {A : Nat → Prop} {D : va_G} {cB cI : ClassId} {tM : Nat}
set_option maxHeartbeats 4000000 in
set_option maxRecDepth 100000 in
theorem w_StreamWriter_putSpare_21 {q_sw q_i q_iB q_t q_tB q_bw q_mt q_mtb q_mtl : Nat} {i_c : Int32} {i_f : Nat → Int32} {mt_from : Int32} {mt_to : Int32} {mt_len : Int32} {mt_dist : Int32} {mt_bef : Nat → Int32} {mt_lat : Nat → Int32} {N : Nat} {t_c' : Int32} {t_f' : Nat → Int32} (hF2 : tp_F p m c c_StreamWriter_putSpare 3 s args tpG R_StreamWriter meth none) : ∀ (n : Nat), ∀ (x1 : Int32) (x2 : Int32) (t_c : Int32) (t_f : Nat → Int32) (H : Heap) (locs : List Loc) (ls : Array Slot), tp_it4 (m_StreamWriter_putSpare_21 N ) n x1 x2 t_c t_f = some (t_c', t_f') → tp_Wd D (tp_ty cB cI) tM A s H locs [(q_sw, .inr (5, [.ref q_i, .ref q_t, .ref q_bw])), (q_i, .inr (3, [.ref q_iB, .int i_c])), (q_iB, .inl (cB, 10000, .inl i_f)), (q_t, .inr (3, [.ref q_tB, .int t_c])), (q_tB, .inl (cB, 10000, .inl t_f)), (q_bw, .inr (1, [.ref q_i, .ref q_t, .ref q_mt])), (q_mt, .inr (2, [.ref q_i, .ref q_mtb, .ref q_mtl, .int mt_from, .int mt_to, .int mt_len, .int mt_dist])), (q_mtb, .inl (cI, 10000, .inl mt_bef)), (q_mtl, .inl (cI, 2048, .inl mt_lat))] → lv_has ls 3 [(0, .ref q_sw), (1, .int x1), (2, .int x2)] → W p l e rm_StreamWriter_putSpare s m args below meth c H locs 0 0 (MQ below (tp_Qv (S := Unit) D A (fun _ => [(q_sw, .inr (5, [.ref q_i, .ref q_t, .ref q_bw])), (q_i, .inr (3, [.ref q_iB, .int i_c])), (q_iB, .inl (cB, 10000, .inl i_f)), (q_t, .inr (3, [.ref q_tB, .int t_c'])), (q_tB, .inl (cB, 10000, .inl t_f')), (q_bw, .inr (1, [.ref q_i, .ref q_t, .ref q_mt])), (q_mt, .inr (2, [.ref q_i, .ref q_mtb, .ref q_mtl, .int mt_from, .int mt_to, .int mt_len, .int mt_dist])), (q_mtb, .inl (cI, 10000, .inl mt_bef)), (q_mtl, .inl (cI, 2048, .inl mt_lat))])) args s 0 0 A) (F0 m 21 ls []) := by
  obtain ⟨hF, hr, hlocks⟩ := id hF2
  obtain ⟨hx, hb, hml, hown, hts⟩ := id hF
  intro n
  induction n with
  | zero => intro x1 x2 t_c t_f H locs ls hm; exact absurd hm (by simp [tp_it4])
  | succ n ih21 =>
    intro x1 x2 t_c t_f H locs ls hm hw hl
    replace hm : m_StreamWriter_putSpare_21 N  (tp_it4 (m_StreamWriter_putSpare_21 N ) n) x1 x2 t_c t_f = some (t_c', t_f') := hm
    unfold m_StreamWriter_putSpare_21 at hm
    refine lv_iload_n hx hb d_StreamWriter_putSpare_21 rfl (lv_at hl 2 rfl) ?_
    refine lv_iload_n hx hb d_StreamWriter_putSpare_22 rfl (lv_at hl 1 rfl) ?_
    refine lv_icmp_ge (tgt := 40) hx hb d_StreamWriter_putSpare_23 (by decide +kernel) (fun hc7 => ?_) (fun hc7 => ?_)
    · replace hm := tp_it hc7 hm
      obtain ⟨rfl, rfl⟩ := tp_inj2 hm
      exact tp_vret () hx hb hr hlocks hw d_StreamWriter_putSpare_40
    · replace hm := tp_if hc7 hm
      refine lv_aload_n hx hb d_StreamWriter_putSpare_26 rfl (lv_at hl 0 rfl) ?_
      refine tp_get (v := .ref q_t) (C := R_StreamWriter) (T := T_StreamWriter) hx hb hts fw_StreamWriter hown hw 0 rfl rfl 1 (by decide +kernel) (hts _ wd_113) rfl d_StreamWriter_putSpare_27 ?_
      refine lv_iconst (v := (0 : Int32)) hx hb d_StreamWriter_putSpare_30 (by decide +kernel) ?_
      obtain ⟨a_c_8, a_f_9, hm10, hm⟩ := tp_b2_e hm
      refine tp_callv (wr := [(q_sw, .inr (5, [.ref q_i, .ref q_t, .ref q_bw])), (q_i, .inr (3, [.ref q_iB, .int i_c])), (q_iB, .inl (cB, 10000, .inl i_f)), (q_bw, .inr (1, [.ref q_i, .ref q_t, .ref q_mt])), (q_mt, .inr (2, [.ref q_i, .ref q_mtb, .ref q_mtl, .int mt_from, .int mt_to, .int mt_len, .int mt_dist])), (q_mtb, .inl (cI, 10000, .inl mt_bef)), (q_mtl, .inl (cI, 2048, .inl mt_lat))]) (WS' := [(q_sw, .inr (5, [.ref q_i, .ref q_t, .ref q_bw])), (q_i, .inr (3, [.ref q_iB, .int i_c])), (q_iB, .inl (cB, 10000, .inl i_f)), (q_t, .inr (3, [.ref q_tB, .int a_c_8])), (q_tB, .inl (cB, 10000, .inl a_f_9)), (q_bw, .inr (1, [.ref q_i, .ref q_t, .ref q_mt])), (q_mt, .inr (2, [.ref q_i, .ref q_mtb, .ref q_mtl, .int mt_from, .int mt_to, .int mt_len, .int mt_dist])), (q_mtb, .inl (cI, 10000, .inl mt_bef)), (q_mtl, .inl (cI, 2048, .inl mt_lat))]) (va_runV (As := [.int (0 : Int32)]) (rest := []) hF (ct_Row_put (l := l) (D := D) (cB := cB) (cI := cI) (tM := tM) (q_a := q_t) (q_aB := q_tB) (a_c := t_c) (a_f := t_f) (x1 := (0 : Int32)) (a_c' := a_c_8) (a_f' := a_f_9) hm10 _) (cwV 1 hts (tpG_V wd_114 wd_5 wd_6 wd_3 wd_2) rfl rfl rfl ⟨rfl, yd_Row_put⟩ ⟨Nat.le_of_ble_eq_true rfl, Nat.le_of_ble_eq_true rfl⟩) ⟨tp_blind, va_recv hw.1 hw.2.1 (ci := 3) (q0 := 3) rfl rfl, tp_pre hw [3, 4] rfl rfl⟩ rfl rfl hl.1 rfl (lv_room (Nat.le_of_ble_eq_true rfl)) d_StreamWriter_putSpare_31 ⟨Nat.le_of_ble_eq_true rfl, Nat.le_of_ble_eq_true rfl⟩) hw [3, 4] [0, 1, 2, 5, 6, 7, 8] [0, 1, 2, 7, 8, 3, 4, 5, 6] rfl rfl rfl (by decide) rfl rfl (fun H locs hw => ?_)
      refine lv_iinc (v := (x2 + (1 : Int32))) (lv' := [(2, .int (x2 + (1 : Int32))), (0, .ref q_sw), (1, .int x1)]) hx hb d_StreamWriter_putSpare_34 hl (k := 2) rfl rfl (by decide +kernel) rfl (fun ls hl => ?_)
      refine lv_goto (tgt := 21) hx hb d_StreamWriter_putSpare_37 (by decide +kernel) ?_
      exact ih21 _ _ _ _ _ _ _ hm hw (lv_sub hl [1, 2, 0] rfl)
set_option maxHeartbeats 4000000 in
set_option maxRecDepth 100000 in
theorem ct_StreamWriter_putSpare {q_sw q_i q_iB q_t q_tB q_bw q_mt q_mtb q_mtl : Nat} {i_c : Int32} {i_f : Nat → Int32} {t_c : Int32} {t_f : Nat → Int32} {mt_from : Int32} {mt_to : Int32} {mt_len : Int32} {mt_dist : Int32} {mt_bef : Nat → Int32} {mt_lat : Nat → Int32} {N : Nat} {x1 : Int32} {t_c' : Int32} {t_f' : Nat → Int32} (hm : m_StreamWriter_putSpare N x1 t_c t_f = some (t_c', t_f')) (sz : Nat) : tp_Cv l y_StreamWriter_putSpare ws_StreamWriter_putSpare rm_StreamWriter_putSpare D (tp_ty cB cI) tM [.ref q_sw, .int x1] [(q_sw, .inr (5, [.ref q_i, .ref q_t, .ref q_bw])), (q_i, .inr (3, [.ref q_iB, .int i_c])), (q_iB, .inl (cB, 10000, .inl i_f)), (q_t, .inr (3, [.ref q_tB, .int t_c])), (q_tB, .inl (cB, 10000, .inl t_f)), (q_bw, .inr (1, [.ref q_i, .ref q_t, .ref q_mt])), (q_mt, .inr (2, [.ref q_i, .ref q_mtb, .ref q_mtl, .int mt_from, .int mt_to, .int mt_len, .int mt_dist])), (q_mtb, .inl (cI, 10000, .inl mt_bef)), (q_mtl, .inl (cI, 2048, .inl mt_lat))] sz [(q_sw, .inr (5, [.ref q_i, .ref q_t, .ref q_bw])), (q_i, .inr (3, [.ref q_iB, .int i_c])), (q_iB, .inl (cB, 10000, .inl i_f)), (q_t, .inr (3, [.ref q_tB, .int t_c'])), (q_tB, .inl (cB, 10000, .inl t_f')), (q_bw, .inr (1, [.ref q_i, .ref q_t, .ref q_mt])), (q_mt, .inr (2, [.ref q_i, .ref q_mtb, .ref q_mtl, .int mt_from, .int mt_to, .int mt_len, .int mt_dist])), (q_mtb, .inl (cI, 10000, .inl mt_bef)), (q_mtl, .inl (cI, 2048, .inl mt_lat))] := by
  refine Met.ofW (cc := c_StreamWriter_putSpare) (maxL := 3) (ret := none) (by decide) rfl ?_
  intro p e s m args below meth c s₁ B hml hv
  obtain ⟨rfl, hv⟩ := hv
  have hw := tp_entry hv
  generalize va_A [(q_sw, .inr (5, [.ref q_i, .ref q_t, .ref q_bw])), (q_i, .inr (3, [.ref q_iB, .int i_c])), (q_iB, .inl (cB, 10000, .inl i_f)), (q_t, .inr (3, [.ref q_tB, .int t_c])), (q_tB, .inl (cB, 10000, .inl t_f)), (q_bw, .inr (1, [.ref q_i, .ref q_t, .ref q_mt])), (q_mt, .inr (2, [.ref q_i, .ref q_mtb, .ref q_mtl, .int mt_from, .int mt_to, .int mt_len, .int mt_dist])), (q_mtb, .inl (cI, 10000, .inl mt_bef)), (q_mtl, .inl (cI, 2048, .inl mt_lat))] sz = A at hw ⊢
  have hx := B.exec
  have hb := B.bytes
  have hr := B.returns
  have hts0 := atoms_spec (ws := ws_StreamWriter_putSpare) B.pre
  have hts := fun w h => hts0 w (List.mem_cons_of_mem _ h)
  have hown : s.vm.findClass R_StreamWriter = some m.cls := findClass_of_methodNamed B.named
  have hlocks := B.notSynchronized
  have hF : CallFix p m c c_StreamWriter_putSpare 3 s _ tpG R_StreamWriter := ⟨hx, hb, hml, hown, hts⟩
  have hF2 : tp_F p m c c_StreamWriter_putSpare 3 s _ tpG R_StreamWriter meth none := ⟨hF, hr, hlocks⟩
  have hl := lv_entry ([.ref q_sw, .int x1]) (n := 3) (Nat.le_of_ble_eq_true rfl)
  rw [lg_entry_eq]
  generalize (lg_sl ([.ref q_sw, .int x1]) ++ List.replicate (3 - (lg_sl ([.ref q_sw, .int x1])).length) Slot.unset).toArray = ls at hl ⊢
  replace hl : lv_has ls 3 [(0, .ref q_sw), (1, .int x1)] := hl
  unfold m_StreamWriter_putSpare at hm
  refine lv_aload_n hx hb d_StreamWriter_putSpare_0 rfl (lv_at hl 0 rfl) ?_
  refine tp_get (v := .ref q_t) (C := R_StreamWriter) (T := T_StreamWriter) hx hb hts fw_StreamWriter hown hw 0 rfl rfl 1 (by decide +kernel) (hts _ wd_113) rfl d_StreamWriter_putSpare_1 ?_
  refine lv_sipush (v := (254 : Int32)) hx hb d_StreamWriter_putSpare_4 (by decide +kernel) ?_
  obtain ⟨a_c_1, a_f_2, hm3, hm⟩ := tp_b2_e hm
  refine tp_callv (wr := [(q_sw, .inr (5, [.ref q_i, .ref q_t, .ref q_bw])), (q_i, .inr (3, [.ref q_iB, .int i_c])), (q_iB, .inl (cB, 10000, .inl i_f)), (q_bw, .inr (1, [.ref q_i, .ref q_t, .ref q_mt])), (q_mt, .inr (2, [.ref q_i, .ref q_mtb, .ref q_mtl, .int mt_from, .int mt_to, .int mt_len, .int mt_dist])), (q_mtb, .inl (cI, 10000, .inl mt_bef)), (q_mtl, .inl (cI, 2048, .inl mt_lat))]) (WS' := [(q_sw, .inr (5, [.ref q_i, .ref q_t, .ref q_bw])), (q_i, .inr (3, [.ref q_iB, .int i_c])), (q_iB, .inl (cB, 10000, .inl i_f)), (q_t, .inr (3, [.ref q_tB, .int a_c_1])), (q_tB, .inl (cB, 10000, .inl a_f_2)), (q_bw, .inr (1, [.ref q_i, .ref q_t, .ref q_mt])), (q_mt, .inr (2, [.ref q_i, .ref q_mtb, .ref q_mtl, .int mt_from, .int mt_to, .int mt_len, .int mt_dist])), (q_mtb, .inl (cI, 10000, .inl mt_bef)), (q_mtl, .inl (cI, 2048, .inl mt_lat))]) (va_runV (As := [.int (254 : Int32)]) (rest := []) hF (ct_Row_put (l := l) (D := D) (cB := cB) (cI := cI) (tM := tM) (q_a := q_t) (q_aB := q_tB) (a_c := t_c) (a_f := t_f) (x1 := (254 : Int32)) (a_c' := a_c_1) (a_f' := a_f_2) hm3 _) (cwV 1 hts (tpG_V wd_114 wd_5 wd_6 wd_3 wd_2) rfl rfl rfl ⟨rfl, yd_Row_put⟩ ⟨Nat.le_of_ble_eq_true rfl, Nat.le_of_ble_eq_true rfl⟩) ⟨tp_blind, va_recv hw.1 hw.2.1 (ci := 3) (q0 := 3) rfl rfl, tp_pre hw [3, 4] rfl rfl⟩ rfl rfl hl.1 rfl (lv_room (Nat.le_of_ble_eq_true rfl)) d_StreamWriter_putSpare_7 ⟨Nat.le_of_ble_eq_true rfl, Nat.le_of_ble_eq_true rfl⟩) hw [3, 4] [0, 1, 2, 5, 6, 7, 8] [0, 1, 2, 7, 8, 3, 4, 5, 6] rfl rfl rfl (by decide) rfl rfl (fun H locs hw => ?_)
  refine lv_aload_n hx hb d_StreamWriter_putSpare_10 rfl (lv_at hl 0 rfl) ?_
  refine tp_get (v := .ref q_t) (C := R_StreamWriter) (T := T_StreamWriter) hx hb hts fw_StreamWriter hown hw 0 rfl rfl 1 (by decide +kernel) (hts _ wd_113) rfl d_StreamWriter_putSpare_11 ?_
  refine lv_iload_n hx hb d_StreamWriter_putSpare_14 rfl (lv_at hl 1 rfl) ?_
  refine lv_iconst (v := (3 : Int32)) hx hb d_StreamWriter_putSpare_15 (by decide +kernel) ?_
  obtain ⟨a_c_4, a_f_5, hm6, hm⟩ := tp_b2_e hm
  refine tp_callv (wr := [(q_sw, .inr (5, [.ref q_i, .ref q_t, .ref q_bw])), (q_i, .inr (3, [.ref q_iB, .int i_c])), (q_iB, .inl (cB, 10000, .inl i_f)), (q_bw, .inr (1, [.ref q_i, .ref q_t, .ref q_mt])), (q_mt, .inr (2, [.ref q_i, .ref q_mtb, .ref q_mtl, .int mt_from, .int mt_to, .int mt_len, .int mt_dist])), (q_mtb, .inl (cI, 10000, .inl mt_bef)), (q_mtl, .inl (cI, 2048, .inl mt_lat))]) (WS' := [(q_sw, .inr (5, [.ref q_i, .ref q_t, .ref q_bw])), (q_i, .inr (3, [.ref q_iB, .int i_c])), (q_iB, .inl (cB, 10000, .inl i_f)), (q_t, .inr (3, [.ref q_tB, .int a_c_4])), (q_tB, .inl (cB, 10000, .inl a_f_5)), (q_bw, .inr (1, [.ref q_i, .ref q_t, .ref q_mt])), (q_mt, .inr (2, [.ref q_i, .ref q_mtb, .ref q_mtl, .int mt_from, .int mt_to, .int mt_len, .int mt_dist])), (q_mtb, .inl (cI, 10000, .inl mt_bef)), (q_mtl, .inl (cI, 2048, .inl mt_lat))]) (va_runV (As := [.int x1, .int (3 : Int32)]) (rest := []) hF (ct_Row_putNumber (l := l) (D := D) (cB := cB) (cI := cI) (tM := tM) (q_a := q_t) (q_aB := q_tB) (a_c := a_c_1) (a_f := a_f_2) (x1 := x1) (x2 := (3 : Int32)) (N := N) (a_c' := a_c_4) (a_f' := a_f_5) hm6 _) (cwV 2 hts (tpG_V wd_115 wd_83 wd_84 wd_3 wd_81) rfl rfl rfl ⟨rfl, yd_Row_putNumber⟩ ⟨Nat.le_of_ble_eq_true rfl, Nat.le_of_ble_eq_true rfl⟩) ⟨tp_blind, va_recv hw.1 hw.2.1 (ci := 3) (q0 := 3) rfl rfl, tp_pre hw [3, 4] rfl rfl⟩ rfl rfl hl.1 rfl (lv_room (Nat.le_of_ble_eq_true rfl)) d_StreamWriter_putSpare_16 ⟨Nat.le_of_ble_eq_true rfl, Nat.le_of_ble_eq_true rfl⟩) hw [3, 4] [0, 1, 2, 5, 6, 7, 8] [0, 1, 2, 7, 8, 3, 4, 5, 6] rfl rfl rfl (by decide) rfl rfl (fun H locs hw => ?_)
  refine lv_iconst (v := (0 : Int32)) hx hb d_StreamWriter_putSpare_19 (by decide +kernel) ?_
  refine lv_istore_n (lv' := [(2, .int (0 : Int32)), (0, .ref q_sw), (1, .int x1)]) hx hb d_StreamWriter_putSpare_20 rfl hl (by decide +kernel) rfl (fun ls hl => ?_)
  exact w_StreamWriter_putSpare_21 hF2  N _ _ _ _ _ _ _ hm hw (lv_sub hl [1, 2, 0] rfl)
end
