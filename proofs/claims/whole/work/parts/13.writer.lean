abbrev rm_BlockWriter_putLength : Room := { frames := 1, cells := 0, slots := 0, locals := 21 }
abbrev ws_BlockWriter_putLength : List Cond := .code y_BlockWriter_putLength c_BlockWriter_putLength 4 none :: tpG
noncomputable def m_BlockWriter_putLength_4 (N : Nat) (rec4 : Int32 → Int32 → Int32 → (Nat → Int32) → Option (Int32 × (Nat → Int32))) (x2 : Int32) (x3 : Int32) (t_c : Int32) (t_f : Nat → Int32) : Option (Int32 × (Nat → Int32)) :=
  if (4 : Int32) ≤ x3 then
    tp_b2 (m_Row_put x2 t_c t_f) fun a_c_2 a_f_3 =>
    some (a_c_2, a_f_3)
  else
    if x2 ≤ (127 : Int32) then
      tp_b2 (m_Row_put x2 t_c t_f) fun a_c_6 a_f_7 =>
      some (a_c_6, a_f_7)
    else
      tp_b2 (m_Row_put ((x2 &&& (127 : Int32)) ||| (128 : Int32)) t_c t_f) fun a_c_9 a_f_10 =>
      rec4 (tp_ushr x2 (7 : Int32)) (x3 + (1 : Int32)) a_c_9 a_f_10
noncomputable def m_BlockWriter_putLength (N : Nat) (x1 : Int32) (t_c : Int32) (t_f : Nat → Int32) : Option (Int32 × (Nat → Int32)) :=
  tp_it4 (m_BlockWriter_putLength_4 N ) N x1 (0 : Int32) t_c t_f
section
variable {p : Program} {l : Launch} {e : Env} {s : State} {m : MethodId} {args : Array Value} {below : List Frame} {meth : Method} {c : Code} {A : Nat → Prop} {D : va_G} {cB cI : ClassId} {tM : Nat}
set_option maxHeartbeats 4000000 in
set_option maxRecDepth 100000 in
theorem w_BlockWriter_putLength_4 {q_bw q_i q_iB q_t q_tB q_mt q_mtb q_mtl : Nat} {i_c : Int32} {i_f : Nat → Int32} {mt_from : Int32} {mt_to : Int32} {mt_len : Int32} {mt_dist : Int32} {mt_bef : Nat → Int32} {mt_lat : Nat → Int32} {N : Nat} {t_c' : Int32} {t_f' : Nat → Int32} (hF2 : tp_F p m c c_BlockWriter_putLength 4 s args tpG R_BlockWriter meth none) : ∀ (n : Nat), ∀ (x2 : Int32) (x3 : Int32) (t_c : Int32) (t_f : Nat → Int32) (H : Heap) (locs : List Loc) (ls : Array Slot), tp_it4 (m_BlockWriter_putLength_4 N ) n x2 x3 t_c t_f = some (t_c', t_f') → tp_Wd D (tp_ty cB cI) tM A s H locs [(q_bw, .inr (1, [.ref q_i, .ref q_t, .ref q_mt])), (q_i, .inr (3, [.ref q_iB, .int i_c])), (q_iB, .inl (cB, 10000, .inl i_f)), (q_t, .inr (3, [.ref q_tB, .int t_c])), (q_tB, .inl (cB, 10000, .inl t_f)), (q_mt, .inr (2, [.ref q_i, .ref q_mtb, .ref q_mtl, .int mt_from, .int mt_to, .int mt_len, .int mt_dist])), (q_mtb, .inl (cI, 10000, .inl mt_bef)), (q_mtl, .inl (cI, 2048, .inl mt_lat))] → lv_has ls 4 [(0, .ref q_bw), (2, .int x2), (3, .int x3)] → W p l e rm_BlockWriter_putLength s m args below meth c H locs 0 0 (MQ below (tp_Qv (S := Unit) D A (fun _ => [(q_bw, .inr (1, [.ref q_i, .ref q_t, .ref q_mt])), (q_i, .inr (3, [.ref q_iB, .int i_c])), (q_iB, .inl (cB, 10000, .inl i_f)), (q_t, .inr (3, [.ref q_tB, .int t_c'])), (q_tB, .inl (cB, 10000, .inl t_f')), (q_mt, .inr (2, [.ref q_i, .ref q_mtb, .ref q_mtl, .int mt_from, .int mt_to, .int mt_len, .int mt_dist])), (q_mtb, .inl (cI, 10000, .inl mt_bef)), (q_mtl, .inl (cI, 2048, .inl mt_lat))])) args s 0 0 A) (F0 m 4 ls []) := by
  obtain ⟨hF, hr, hlocks⟩ := id hF2
  obtain ⟨hx, hb, hml, hown, hts⟩ := id hF
  intro n
  induction n with
  | zero => intro x2 x3 t_c t_f H locs ls hm; exact absurd hm (by simp [tp_it4])
  | succ n ih4 =>
    intro x2 x3 t_c t_f H locs ls hm hw hl
    replace hm : m_BlockWriter_putLength_4 N  (tp_it4 (m_BlockWriter_putLength_4 N ) n) x2 x3 t_c t_f = some (t_c', t_f') := hm
    unfold m_BlockWriter_putLength_4 at hm
    refine lv_iload_n hx hb d_BlockWriter_putLength_4 rfl (lv_at hl 2 rfl) ?_
    refine lv_iconst (v := (4 : Int32)) hx hb d_BlockWriter_putLength_5 (by decide +kernel) ?_
    refine lv_icmp_ge (tgt := 41) hx hb d_BlockWriter_putLength_6 (by decide +kernel) (fun hc1 => ?_) (fun hc1 => ?_)
    · replace hm := tp_it hc1 hm
      refine lv_aload_n hx hb d_BlockWriter_putLength_41 rfl (lv_at hl 0 rfl) ?_
      refine tp_get (v := .ref q_t) (C := R_BlockWriter) (T := T_BlockWriter) hx hb hts fw_BlockWriter hown hw 0 rfl rfl 1 (by decide +kernel) (hts _ wd_79) rfl d_BlockWriter_putLength_42 ?_
      refine lv_iload_n hx hb d_BlockWriter_putLength_45 rfl (lv_at hl 1 rfl) ?_
      obtain ⟨a_c_2, a_f_3, hm4, hm⟩ := tp_b2_e hm
      refine tp_callv (wr := [(q_bw, .inr (1, [.ref q_i, .ref q_t, .ref q_mt])), (q_i, .inr (3, [.ref q_iB, .int i_c])), (q_iB, .inl (cB, 10000, .inl i_f)), (q_mt, .inr (2, [.ref q_i, .ref q_mtb, .ref q_mtl, .int mt_from, .int mt_to, .int mt_len, .int mt_dist])), (q_mtb, .inl (cI, 10000, .inl mt_bef)), (q_mtl, .inl (cI, 2048, .inl mt_lat))]) (WS' := [(q_bw, .inr (1, [.ref q_i, .ref q_t, .ref q_mt])), (q_i, .inr (3, [.ref q_iB, .int i_c])), (q_iB, .inl (cB, 10000, .inl i_f)), (q_t, .inr (3, [.ref q_tB, .int a_c_2])), (q_tB, .inl (cB, 10000, .inl a_f_3)), (q_mt, .inr (2, [.ref q_i, .ref q_mtb, .ref q_mtl, .int mt_from, .int mt_to, .int mt_len, .int mt_dist])), (q_mtb, .inl (cI, 10000, .inl mt_bef)), (q_mtl, .inl (cI, 2048, .inl mt_lat))]) (va_runV (As := [.int x2]) (rest := []) hF (ct_Row_put (l := l) (D := D) (cB := cB) (cI := cI) (tM := tM) (q_a := q_t) (q_aB := q_tB) (a_c := t_c) (a_f := t_f) (x1 := x2) (a_c' := a_c_2) (a_f' := a_f_3) hm4 _) (cwV 1 hts (tpG_V wd_80 wd_5 wd_6 wd_3 wd_2) rfl rfl rfl ⟨rfl, yd_Row_put⟩ ⟨Nat.le_of_ble_eq_true rfl, Nat.le_of_ble_eq_true rfl⟩) ⟨tp_blind, va_recv hw.1 hw.2.1 (ci := 3) (q0 := 3) rfl rfl, tp_pre hw [3, 4] rfl rfl⟩ rfl rfl hl.1 rfl (lv_room (Nat.le_of_ble_eq_true rfl)) d_BlockWriter_putLength_46 ⟨Nat.le_of_ble_eq_true rfl, Nat.le_of_ble_eq_true rfl⟩) hw [3, 4] [0, 1, 2, 5, 6, 7] [0, 1, 2, 6, 7, 3, 4, 5] rfl rfl rfl (by decide) rfl rfl (fun H locs hw => ?_)
      obtain ⟨rfl, rfl⟩ := tp_inj2 hm
      exact tp_vret () hx hb hr hlocks hw d_BlockWriter_putLength_49
    · replace hm := tp_if hc1 hm
      refine lv_iload_n hx hb d_BlockWriter_putLength_9 rfl (lv_at hl 1 rfl) ?_
      refine lv_bipush (v := (127 : Int32)) hx hb d_BlockWriter_putLength_10 (by decide +kernel) ?_
      refine lv_icmp_le (tgt := 41) hx hb d_BlockWriter_putLength_12 (by decide +kernel) (fun hc5 => ?_) (fun hc5 => ?_)
      · replace hm := tp_it hc5 hm
        refine lv_aload_n hx hb d_BlockWriter_putLength_41 rfl (lv_at hl 0 rfl) ?_
        refine tp_get (v := .ref q_t) (C := R_BlockWriter) (T := T_BlockWriter) hx hb hts fw_BlockWriter hown hw 0 rfl rfl 1 (by decide +kernel) (hts _ wd_79) rfl d_BlockWriter_putLength_42 ?_
        refine lv_iload_n hx hb d_BlockWriter_putLength_45 rfl (lv_at hl 1 rfl) ?_
        obtain ⟨a_c_6, a_f_7, hm8, hm⟩ := tp_b2_e hm
        refine tp_callv (wr := [(q_bw, .inr (1, [.ref q_i, .ref q_t, .ref q_mt])), (q_i, .inr (3, [.ref q_iB, .int i_c])), (q_iB, .inl (cB, 10000, .inl i_f)), (q_mt, .inr (2, [.ref q_i, .ref q_mtb, .ref q_mtl, .int mt_from, .int mt_to, .int mt_len, .int mt_dist])), (q_mtb, .inl (cI, 10000, .inl mt_bef)), (q_mtl, .inl (cI, 2048, .inl mt_lat))]) (WS' := [(q_bw, .inr (1, [.ref q_i, .ref q_t, .ref q_mt])), (q_i, .inr (3, [.ref q_iB, .int i_c])), (q_iB, .inl (cB, 10000, .inl i_f)), (q_t, .inr (3, [.ref q_tB, .int a_c_6])), (q_tB, .inl (cB, 10000, .inl a_f_7)), (q_mt, .inr (2, [.ref q_i, .ref q_mtb, .ref q_mtl, .int mt_from, .int mt_to, .int mt_len, .int mt_dist])), (q_mtb, .inl (cI, 10000, .inl mt_bef)), (q_mtl, .inl (cI, 2048, .inl mt_lat))]) (va_runV (As := [.int x2]) (rest := []) hF (ct_Row_put (l := l) (D := D) (cB := cB) (cI := cI) (tM := tM) (q_a := q_t) (q_aB := q_tB) (a_c := t_c) (a_f := t_f) (x1 := x2) (a_c' := a_c_6) (a_f' := a_f_7) hm8 _) (cwV 1 hts (tpG_V wd_80 wd_5 wd_6 wd_3 wd_2) rfl rfl rfl ⟨rfl, yd_Row_put⟩ ⟨Nat.le_of_ble_eq_true rfl, Nat.le_of_ble_eq_true rfl⟩) ⟨tp_blind, va_recv hw.1 hw.2.1 (ci := 3) (q0 := 3) rfl rfl, tp_pre hw [3, 4] rfl rfl⟩ rfl rfl hl.1 rfl (lv_room (Nat.le_of_ble_eq_true rfl)) d_BlockWriter_putLength_46 ⟨Nat.le_of_ble_eq_true rfl, Nat.le_of_ble_eq_true rfl⟩) hw [3, 4] [0, 1, 2, 5, 6, 7] [0, 1, 2, 6, 7, 3, 4, 5] rfl rfl rfl (by decide) rfl rfl (fun H locs hw => ?_)
        obtain ⟨rfl, rfl⟩ := tp_inj2 hm
        exact tp_vret () hx hb hr hlocks hw d_BlockWriter_putLength_49
      · replace hm := tp_if hc5 hm
        refine lv_aload_n hx hb d_BlockWriter_putLength_15 rfl (lv_at hl 0 rfl) ?_
        refine tp_get (v := .ref q_t) (C := R_BlockWriter) (T := T_BlockWriter) hx hb hts fw_BlockWriter hown hw 0 rfl rfl 1 (by decide +kernel) (hts _ wd_79) rfl d_BlockWriter_putLength_16 ?_
        refine lv_iload_n hx hb d_BlockWriter_putLength_19 rfl (lv_at hl 1 rfl) ?_
        refine lv_bipush (v := (127 : Int32)) hx hb d_BlockWriter_putLength_20 (by decide +kernel) ?_
        refine lv_iand hx hb d_BlockWriter_putLength_22 ?_
        refine lv_sipush (v := (128 : Int32)) hx hb d_BlockWriter_putLength_23 (by decide +kernel) ?_
        refine lv_ior hx hb d_BlockWriter_putLength_26 ?_
        obtain ⟨a_c_9, a_f_10, hm11, hm⟩ := tp_b2_e hm
        refine tp_callv (wr := [(q_bw, .inr (1, [.ref q_i, .ref q_t, .ref q_mt])), (q_i, .inr (3, [.ref q_iB, .int i_c])), (q_iB, .inl (cB, 10000, .inl i_f)), (q_mt, .inr (2, [.ref q_i, .ref q_mtb, .ref q_mtl, .int mt_from, .int mt_to, .int mt_len, .int mt_dist])), (q_mtb, .inl (cI, 10000, .inl mt_bef)), (q_mtl, .inl (cI, 2048, .inl mt_lat))]) (WS' := [(q_bw, .inr (1, [.ref q_i, .ref q_t, .ref q_mt])), (q_i, .inr (3, [.ref q_iB, .int i_c])), (q_iB, .inl (cB, 10000, .inl i_f)), (q_t, .inr (3, [.ref q_tB, .int a_c_9])), (q_tB, .inl (cB, 10000, .inl a_f_10)), (q_mt, .inr (2, [.ref q_i, .ref q_mtb, .ref q_mtl, .int mt_from, .int mt_to, .int mt_len, .int mt_dist])), (q_mtb, .inl (cI, 10000, .inl mt_bef)), (q_mtl, .inl (cI, 2048, .inl mt_lat))]) (va_runV (As := [.int ((x2 &&& (127 : Int32)) ||| (128 : Int32))]) (rest := []) hF (ct_Row_put (l := l) (D := D) (cB := cB) (cI := cI) (tM := tM) (q_a := q_t) (q_aB := q_tB) (a_c := t_c) (a_f := t_f) (x1 := ((x2 &&& (127 : Int32)) ||| (128 : Int32))) (a_c' := a_c_9) (a_f' := a_f_10) hm11 _) (cwV 1 hts (tpG_V wd_80 wd_5 wd_6 wd_3 wd_2) rfl rfl rfl ⟨rfl, yd_Row_put⟩ ⟨Nat.le_of_ble_eq_true rfl, Nat.le_of_ble_eq_true rfl⟩) ⟨tp_blind, va_recv hw.1 hw.2.1 (ci := 3) (q0 := 3) rfl rfl, tp_pre hw [3, 4] rfl rfl⟩ rfl rfl hl.1 rfl (lv_room (Nat.le_of_ble_eq_true rfl)) d_BlockWriter_putLength_27 ⟨Nat.le_of_ble_eq_true rfl, Nat.le_of_ble_eq_true rfl⟩) hw [3, 4] [0, 1, 2, 5, 6, 7] [0, 1, 2, 6, 7, 3, 4, 5] rfl rfl rfl (by decide) rfl rfl (fun H locs hw => ?_)
        refine lv_iload_n hx hb d_BlockWriter_putLength_30 rfl (lv_at hl 1 rfl) ?_
        refine lv_bipush (v := (7 : Int32)) hx hb d_BlockWriter_putLength_31 (by decide +kernel) ?_
        refine lv_iushr (v := (tp_ushr x2 (7 : Int32))) hx hb d_BlockWriter_putLength_33 rfl ?_
        refine lv_istore_n (lv' := [(2, .int (tp_ushr x2 (7 : Int32))), (0, .ref q_bw), (3, .int x3)]) hx hb d_BlockWriter_putLength_34 rfl hl (by decide +kernel) rfl (fun ls hl => ?_)
        refine lv_iinc (v := (x3 + (1 : Int32))) (lv' := [(3, .int (x3 + (1 : Int32))), (2, .int (tp_ushr x2 (7 : Int32))), (0, .ref q_bw)]) hx hb d_BlockWriter_putLength_35 hl (k := 2) rfl rfl (by decide +kernel) rfl (fun ls hl => ?_)
        refine lv_goto (tgt := 4) hx hb d_BlockWriter_putLength_38 (by decide +kernel) ?_
        exact ih4 _ _ _ _ _ _ _ hm hw (lv_sub hl [2, 1, 0] rfl)
set_option maxHeartbeats 4000000 in
set_option maxRecDepth 100000 in
theorem ct_BlockWriter_putLength {q_bw q_i q_iB q_t q_tB q_mt q_mtb q_mtl : Nat} {i_c : Int32} {i_f : Nat → Int32} {t_c : Int32} {t_f : Nat → Int32} {mt_from : Int32} {mt_to : Int32} {mt_len : Int32} {mt_dist : Int32} {mt_bef : Nat → Int32} {mt_lat : Nat → Int32} {N : Nat} {x1 : Int32} {t_c' : Int32} {t_f' : Nat → Int32} (hm : m_BlockWriter_putLength N x1 t_c t_f = some (t_c', t_f')) (sz : Nat) : tp_Cv l y_BlockWriter_putLength ws_BlockWriter_putLength rm_BlockWriter_putLength D (tp_ty cB cI) tM [.ref q_bw, .int x1] [(q_bw, .inr (1, [.ref q_i, .ref q_t, .ref q_mt])), (q_i, .inr (3, [.ref q_iB, .int i_c])), (q_iB, .inl (cB, 10000, .inl i_f)), (q_t, .inr (3, [.ref q_tB, .int t_c])), (q_tB, .inl (cB, 10000, .inl t_f)), (q_mt, .inr (2, [.ref q_i, .ref q_mtb, .ref q_mtl, .int mt_from, .int mt_to, .int mt_len, .int mt_dist])), (q_mtb, .inl (cI, 10000, .inl mt_bef)), (q_mtl, .inl (cI, 2048, .inl mt_lat))] sz [(q_bw, .inr (1, [.ref q_i, .ref q_t, .ref q_mt])), (q_i, .inr (3, [.ref q_iB, .int i_c])), (q_iB, .inl (cB, 10000, .inl i_f)), (q_t, .inr (3, [.ref q_tB, .int t_c'])), (q_tB, .inl (cB, 10000, .inl t_f')), (q_mt, .inr (2, [.ref q_i, .ref q_mtb, .ref q_mtl, .int mt_from, .int mt_to, .int mt_len, .int mt_dist])), (q_mtb, .inl (cI, 10000, .inl mt_bef)), (q_mtl, .inl (cI, 2048, .inl mt_lat))] := by
  refine Met.ofW (cc := c_BlockWriter_putLength) (maxL := 4) (ret := none) (by decide) rfl ?_
  intro p e s m args below meth c s₁ B hml hv
  obtain ⟨rfl, hv⟩ := hv
  have hw := tp_entry hv
  generalize va_A [(q_bw, .inr (1, [.ref q_i, .ref q_t, .ref q_mt])), (q_i, .inr (3, [.ref q_iB, .int i_c])), (q_iB, .inl (cB, 10000, .inl i_f)), (q_t, .inr (3, [.ref q_tB, .int t_c])), (q_tB, .inl (cB, 10000, .inl t_f)), (q_mt, .inr (2, [.ref q_i, .ref q_mtb, .ref q_mtl, .int mt_from, .int mt_to, .int mt_len, .int mt_dist])), (q_mtb, .inl (cI, 10000, .inl mt_bef)), (q_mtl, .inl (cI, 2048, .inl mt_lat))] sz = A at hw ⊢
  have hx := B.exec
  have hb := B.bytes
  have hr := B.returns
  have hts0 := atoms_spec (ws := ws_BlockWriter_putLength) B.pre
  have hts := fun w h => hts0 w (List.mem_cons_of_mem _ h)
  have hown : s.vm.findClass R_BlockWriter = some m.cls := findClass_of_methodNamed B.named
  have hlocks := B.notSynchronized
  have hF : CallFix p m c c_BlockWriter_putLength 4 s _ tpG R_BlockWriter := ⟨hx, hb, hml, hown, hts⟩
  have hF2 : tp_F p m c c_BlockWriter_putLength 4 s _ tpG R_BlockWriter meth none := ⟨hF, hr, hlocks⟩
  have hl := lv_entry ([.ref q_bw, .int x1]) (n := 4) (Nat.le_of_ble_eq_true rfl)
  rw [lg_entry_eq]
  generalize (lg_sl ([.ref q_bw, .int x1]) ++ List.replicate (4 - (lg_sl ([.ref q_bw, .int x1])).length) Slot.unset).toArray = ls at hl ⊢
  replace hl : lv_has ls 4 [(0, .ref q_bw), (1, .int x1)] := hl
  unfold m_BlockWriter_putLength at hm
  refine lv_iload_n hx hb d_BlockWriter_putLength_0 rfl (lv_at hl 1 rfl) ?_
  refine lv_istore_n (lv' := [(2, .int x1), (0, .ref q_bw), (1, .int x1)]) hx hb d_BlockWriter_putLength_1 rfl hl (by decide +kernel) rfl (fun ls hl => ?_)
  refine lv_iconst (v := (0 : Int32)) hx hb d_BlockWriter_putLength_2 (by decide +kernel) ?_
  refine lv_istore_n (lv' := [(3, .int (0 : Int32)), (2, .int x1), (0, .ref q_bw), (1, .int x1)]) hx hb d_BlockWriter_putLength_3 rfl hl (by decide +kernel) rfl (fun ls hl => ?_)
  exact w_BlockWriter_putLength_4 hF2  N _ _ _ _ _ _ _ hm hw (lv_sub hl [2, 1, 0] rfl)
end
abbrev rm_BlockWriter_putLiterals : Room := { frames := 2, cells := 0, slots := 0, locals := 45 }
abbrev ws_BlockWriter_putLiterals : List Cond := .code y_BlockWriter_putLiterals c_BlockWriter_putLiterals 4 none :: tpG
noncomputable def m_BlockWriter_putLiterals (N : Nat) (x1 : Int32) (x2 : Int32) (i_c : Int32) (i_f : Nat → Int32) (t_c : Int32) (t_f : Nat → Int32) : Option (Int32 × (Nat → Int32)) :=
  if (1 : Int32) ≤ (x2 - x1) then
    if (60 : Int32) < (x2 - x1) then
      if (256 : Int32) < (x2 - x1) then
        tp_b2 (m_Row_put (244 : Int32) t_c t_f) fun a_c_4 a_f_5 =>
        tp_b2 (m_Row_putNumber N ((x2 - x1) - (1 : Int32)) (2 : Int32) a_c_4 a_f_5) fun a_c_7 a_f_8 =>
        tp_b2 (m_Row_putFrom N x1 x2 a_c_7 a_f_8 i_c i_f) fun a_c_10 a_f_11 =>
        some (a_c_10, a_f_11)
      else
        tp_b2 (m_Row_put (240 : Int32) t_c t_f) fun a_c_13 a_f_14 =>
        tp_b2 (m_Row_putNumber N ((x2 - x1) - (1 : Int32)) (1 : Int32) a_c_13 a_f_14) fun a_c_16 a_f_17 =>
        tp_b2 (m_Row_putFrom N x1 x2 a_c_16 a_f_17 i_c i_f) fun a_c_19 a_f_20 =>
        some (a_c_19, a_f_20)
    else
      tp_b2 (m_Row_put (((x2 - x1) - (1 : Int32)) <<< ((2 : Int32) &&& 31)) t_c t_f) fun a_c_22 a_f_23 =>
      tp_b2 (m_Row_putFrom N x1 x2 a_c_22 a_f_23 i_c i_f) fun a_c_25 a_f_26 =>
      some (a_c_25, a_f_26)
  else
    some (t_c, t_f)
section
variable {p : Program} {l : Launch} {e : Env} {s : State} {m : MethodId} {args : Array Value} {below : List Frame} {meth : Method} {c : Code} {A : Nat → Prop} {D : va_G} {cB cI : ClassId} {tM : Nat}
set_option maxHeartbeats 4000000 in
set_option maxRecDepth 100000 in
theorem ct_BlockWriter_putLiterals {q_bw q_i q_iB q_t q_tB q_mt q_mtb q_mtl : Nat} {i_c : Int32} {i_f : Nat → Int32} {t_c : Int32} {t_f : Nat → Int32} {mt_from : Int32} {mt_to : Int32} {mt_len : Int32} {mt_dist : Int32} {mt_bef : Nat → Int32} {mt_lat : Nat → Int32} {N : Nat} {x1 : Int32} {x2 : Int32} {t_c' : Int32} {t_f' : Nat → Int32} (hm : m_BlockWriter_putLiterals N x1 x2 i_c i_f t_c t_f = some (t_c', t_f')) (sz : Nat) : tp_Cv l y_BlockWriter_putLiterals ws_BlockWriter_putLiterals rm_BlockWriter_putLiterals D (tp_ty cB cI) tM [.ref q_bw, .int x1, .int x2] [(q_bw, .inr (1, [.ref q_i, .ref q_t, .ref q_mt])), (q_i, .inr (3, [.ref q_iB, .int i_c])), (q_iB, .inl (cB, 10000, .inl i_f)), (q_t, .inr (3, [.ref q_tB, .int t_c])), (q_tB, .inl (cB, 10000, .inl t_f)), (q_mt, .inr (2, [.ref q_i, .ref q_mtb, .ref q_mtl, .int mt_from, .int mt_to, .int mt_len, .int mt_dist])), (q_mtb, .inl (cI, 10000, .inl mt_bef)), (q_mtl, .inl (cI, 2048, .inl mt_lat))] sz [(q_bw, .inr (1, [.ref q_i, .ref q_t, .ref q_mt])), (q_i, .inr (3, [.ref q_iB, .int i_c])), (q_iB, .inl (cB, 10000, .inl i_f)), (q_t, .inr (3, [.ref q_tB, .int t_c'])), (q_tB, .inl (cB, 10000, .inl t_f')), (q_mt, .inr (2, [.ref q_i, .ref q_mtb, .ref q_mtl, .int mt_from, .int mt_to, .int mt_len, .int mt_dist])), (q_mtb, .inl (cI, 10000, .inl mt_bef)), (q_mtl, .inl (cI, 2048, .inl mt_lat))] := by
  refine Met.ofW (cc := c_BlockWriter_putLiterals) (maxL := 4) (ret := none) (by decide) rfl ?_
  intro p e s m args below meth c s₁ B hml hv
  obtain ⟨rfl, hv⟩ := hv
  have hw := tp_entry hv
  generalize va_A [(q_bw, .inr (1, [.ref q_i, .ref q_t, .ref q_mt])), (q_i, .inr (3, [.ref q_iB, .int i_c])), (q_iB, .inl (cB, 10000, .inl i_f)), (q_t, .inr (3, [.ref q_tB, .int t_c])), (q_tB, .inl (cB, 10000, .inl t_f)), (q_mt, .inr (2, [.ref q_i, .ref q_mtb, .ref q_mtl, .int mt_from, .int mt_to, .int mt_len, .int mt_dist])), (q_mtb, .inl (cI, 10000, .inl mt_bef)), (q_mtl, .inl (cI, 2048, .inl mt_lat))] sz = A at hw ⊢
  have hx := B.exec
  have hb := B.bytes
  have hr := B.returns
  have hts0 := atoms_spec (ws := ws_BlockWriter_putLiterals) B.pre
  have hts := fun w h => hts0 w (List.mem_cons_of_mem _ h)
  have hown : s.vm.findClass R_BlockWriter = some m.cls := findClass_of_methodNamed B.named
  have hlocks := B.notSynchronized
  have hF : CallFix p m c c_BlockWriter_putLiterals 4 s _ tpG R_BlockWriter := ⟨hx, hb, hml, hown, hts⟩
  have hF2 : tp_F p m c c_BlockWriter_putLiterals 4 s _ tpG R_BlockWriter meth none := ⟨hF, hr, hlocks⟩
  have hl := lv_entry ([.ref q_bw, .int x1, .int x2]) (n := 4) (Nat.le_of_ble_eq_true rfl)
  rw [lg_entry_eq]
  generalize (lg_sl ([.ref q_bw, .int x1, .int x2]) ++ List.replicate (4 - (lg_sl ([.ref q_bw, .int x1, .int x2])).length) Slot.unset).toArray = ls at hl ⊢
  replace hl : lv_has ls 4 [(0, .ref q_bw), (1, .int x1), (2, .int x2)] := hl
  unfold m_BlockWriter_putLiterals at hm
  refine lv_iload_n hx hb d_BlockWriter_putLiterals_0 rfl (lv_at hl 2 rfl) ?_
  refine lv_iload_n hx hb d_BlockWriter_putLiterals_1 rfl (lv_at hl 1 rfl) ?_
  refine lv_isub hx hb d_BlockWriter_putLiterals_2 ?_
  refine lv_istore_n (lv' := [(3, .int (x2 - x1)), (0, .ref q_bw), (1, .int x1), (2, .int x2)]) hx hb d_BlockWriter_putLiterals_3 rfl hl (by decide +kernel) rfl (fun ls hl => ?_)
  refine lv_iload_n hx hb d_BlockWriter_putLiterals_4 rfl (lv_at hl 0 rfl) ?_
  refine lv_iconst (v := (1 : Int32)) hx hb d_BlockWriter_putLiterals_5 (by decide +kernel) ?_
  refine lv_icmp_ge (tgt := 10) hx hb d_BlockWriter_putLiterals_6 (by decide +kernel) (fun hc1 => ?_) (fun hc1 => ?_)
  · replace hm := tp_it hc1 hm
    refine lv_iload_n hx hb d_BlockWriter_putLiterals_10 rfl (lv_at hl 0 rfl) ?_
    refine lv_bipush (v := (60 : Int32)) hx hb d_BlockWriter_putLiterals_11 (by decide +kernel) ?_
    refine lv_icmp_gt (tgt := 31) hx hb d_BlockWriter_putLiterals_13 (by decide +kernel) (fun hc2 => ?_) (fun hc2 => ?_)
    · replace hm := tp_it hc2 hm
      refine lv_iload_n hx hb d_BlockWriter_putLiterals_31 rfl (lv_at hl 0 rfl) ?_
      refine lv_sipush (v := (256 : Int32)) hx hb d_BlockWriter_putLiterals_32 (by decide +kernel) ?_
      refine lv_icmp_gt (tgt := 62) hx hb d_BlockWriter_putLiterals_35 (by decide +kernel) (fun hc3 => ?_) (fun hc3 => ?_)
      · replace hm := tp_it hc3 hm
        refine lv_aload_n hx hb d_BlockWriter_putLiterals_62 rfl (lv_at hl 1 rfl) ?_
        refine tp_get (v := .ref q_t) (C := R_BlockWriter) (T := T_BlockWriter) hx hb hts fw_BlockWriter hown hw 0 rfl rfl 1 (by decide +kernel) (hts _ wd_79) rfl d_BlockWriter_putLiterals_63 ?_
        refine lv_sipush (v := (244 : Int32)) hx hb d_BlockWriter_putLiterals_66 (by decide +kernel) ?_
        obtain ⟨a_c_4, a_f_5, hm6, hm⟩ := tp_b2_e hm
        refine tp_callv (wr := [(q_bw, .inr (1, [.ref q_i, .ref q_t, .ref q_mt])), (q_i, .inr (3, [.ref q_iB, .int i_c])), (q_iB, .inl (cB, 10000, .inl i_f)), (q_mt, .inr (2, [.ref q_i, .ref q_mtb, .ref q_mtl, .int mt_from, .int mt_to, .int mt_len, .int mt_dist])), (q_mtb, .inl (cI, 10000, .inl mt_bef)), (q_mtl, .inl (cI, 2048, .inl mt_lat))]) (WS' := [(q_bw, .inr (1, [.ref q_i, .ref q_t, .ref q_mt])), (q_i, .inr (3, [.ref q_iB, .int i_c])), (q_iB, .inl (cB, 10000, .inl i_f)), (q_t, .inr (3, [.ref q_tB, .int a_c_4])), (q_tB, .inl (cB, 10000, .inl a_f_5)), (q_mt, .inr (2, [.ref q_i, .ref q_mtb, .ref q_mtl, .int mt_from, .int mt_to, .int mt_len, .int mt_dist])), (q_mtb, .inl (cI, 10000, .inl mt_bef)), (q_mtl, .inl (cI, 2048, .inl mt_lat))]) (va_runV (As := [.int (244 : Int32)]) (rest := []) hF (ct_Row_put (l := l) (D := D) (cB := cB) (cI := cI) (tM := tM) (q_a := q_t) (q_aB := q_tB) (a_c := t_c) (a_f := t_f) (x1 := (244 : Int32)) (a_c' := a_c_4) (a_f' := a_f_5) hm6 _) (cwV 1 hts (tpG_V wd_80 wd_5 wd_6 wd_3 wd_2) rfl rfl rfl ⟨rfl, yd_Row_put⟩ ⟨Nat.le_of_ble_eq_true rfl, Nat.le_of_ble_eq_true rfl⟩) ⟨tp_blind, va_recv hw.1 hw.2.1 (ci := 3) (q0 := 3) rfl rfl, tp_pre hw [3, 4] rfl rfl⟩ rfl rfl hl.1 rfl (lv_room (Nat.le_of_ble_eq_true rfl)) d_BlockWriter_putLiterals_69 ⟨Nat.le_of_ble_eq_true rfl, Nat.le_of_ble_eq_true rfl⟩) hw [3, 4] [0, 1, 2, 5, 6, 7] [0, 1, 2, 6, 7, 3, 4, 5] rfl rfl rfl (by decide) rfl rfl (fun H locs hw => ?_)
        refine lv_aload_n hx hb d_BlockWriter_putLiterals_72 rfl (lv_at hl 1 rfl) ?_
        refine tp_get (v := .ref q_t) (C := R_BlockWriter) (T := T_BlockWriter) hx hb hts fw_BlockWriter hown hw 0 rfl rfl 1 (by decide +kernel) (hts _ wd_79) rfl d_BlockWriter_putLiterals_73 ?_
        refine lv_iload_n hx hb d_BlockWriter_putLiterals_76 rfl (lv_at hl 0 rfl) ?_
        refine lv_iconst (v := (1 : Int32)) hx hb d_BlockWriter_putLiterals_77 (by decide +kernel) ?_
        refine lv_isub hx hb d_BlockWriter_putLiterals_78 ?_
        refine lv_iconst (v := (2 : Int32)) hx hb d_BlockWriter_putLiterals_79 (by decide +kernel) ?_
        obtain ⟨a_c_7, a_f_8, hm9, hm⟩ := tp_b2_e hm
        refine tp_callv (wr := [(q_bw, .inr (1, [.ref q_i, .ref q_t, .ref q_mt])), (q_i, .inr (3, [.ref q_iB, .int i_c])), (q_iB, .inl (cB, 10000, .inl i_f)), (q_mt, .inr (2, [.ref q_i, .ref q_mtb, .ref q_mtl, .int mt_from, .int mt_to, .int mt_len, .int mt_dist])), (q_mtb, .inl (cI, 10000, .inl mt_bef)), (q_mtl, .inl (cI, 2048, .inl mt_lat))]) (WS' := [(q_bw, .inr (1, [.ref q_i, .ref q_t, .ref q_mt])), (q_i, .inr (3, [.ref q_iB, .int i_c])), (q_iB, .inl (cB, 10000, .inl i_f)), (q_t, .inr (3, [.ref q_tB, .int a_c_7])), (q_tB, .inl (cB, 10000, .inl a_f_8)), (q_mt, .inr (2, [.ref q_i, .ref q_mtb, .ref q_mtl, .int mt_from, .int mt_to, .int mt_len, .int mt_dist])), (q_mtb, .inl (cI, 10000, .inl mt_bef)), (q_mtl, .inl (cI, 2048, .inl mt_lat))]) (va_runV (As := [.int ((x2 - x1) - (1 : Int32)), .int (2 : Int32)]) (rest := []) hF (ct_Row_putNumber (l := l) (D := D) (cB := cB) (cI := cI) (tM := tM) (q_a := q_t) (q_aB := q_tB) (a_c := a_c_4) (a_f := a_f_5) (x1 := ((x2 - x1) - (1 : Int32))) (x2 := (2 : Int32)) (N := N) (a_c' := a_c_7) (a_f' := a_f_8) hm9 _) (cwV 2 hts (tpG_V wd_82 wd_83 wd_84 wd_3 wd_81) rfl rfl rfl ⟨rfl, yd_Row_putNumber⟩ ⟨Nat.le_of_ble_eq_true rfl, Nat.le_of_ble_eq_true rfl⟩) ⟨tp_blind, va_recv hw.1 hw.2.1 (ci := 3) (q0 := 3) rfl rfl, tp_pre hw [3, 4] rfl rfl⟩ rfl rfl hl.1 rfl (lv_room (Nat.le_of_ble_eq_true rfl)) d_BlockWriter_putLiterals_80 ⟨Nat.le_of_ble_eq_true rfl, Nat.le_of_ble_eq_true rfl⟩) hw [3, 4] [0, 1, 2, 5, 6, 7] [0, 1, 2, 6, 7, 3, 4, 5] rfl rfl rfl (by decide) rfl rfl (fun H locs hw => ?_)
        refine lv_aload_n hx hb d_BlockWriter_putLiterals_83 rfl (lv_at hl 1 rfl) ?_
        refine tp_get (v := .ref q_t) (C := R_BlockWriter) (T := T_BlockWriter) hx hb hts fw_BlockWriter hown hw 0 rfl rfl 1 (by decide +kernel) (hts _ wd_79) rfl d_BlockWriter_putLiterals_84 ?_
        refine lv_aload_n hx hb d_BlockWriter_putLiterals_87 rfl (lv_at hl 1 rfl) ?_
        refine tp_get (v := .ref q_i) (C := R_BlockWriter) (T := T_BlockWriter) hx hb hts fw_BlockWriter hown hw 0 rfl rfl 0 (by decide +kernel) (hts _ wd_85) rfl d_BlockWriter_putLiterals_88 ?_
        refine lv_iload_n hx hb d_BlockWriter_putLiterals_91 rfl (lv_at hl 2 rfl) ?_
        refine lv_iload_n hx hb d_BlockWriter_putLiterals_92 rfl (lv_at hl 3 rfl) ?_
        obtain ⟨a_c_10, a_f_11, hm12, hm⟩ := tp_b2_e hm
        refine tp_callv (wr := [(q_bw, .inr (1, [.ref q_i, .ref q_t, .ref q_mt])), (q_mt, .inr (2, [.ref q_i, .ref q_mtb, .ref q_mtl, .int mt_from, .int mt_to, .int mt_len, .int mt_dist])), (q_mtb, .inl (cI, 10000, .inl mt_bef)), (q_mtl, .inl (cI, 2048, .inl mt_lat))]) (WS' := [(q_bw, .inr (1, [.ref q_i, .ref q_t, .ref q_mt])), (q_i, .inr (3, [.ref q_iB, .int i_c])), (q_iB, .inl (cB, 10000, .inl i_f)), (q_t, .inr (3, [.ref q_tB, .int a_c_10])), (q_tB, .inl (cB, 10000, .inl a_f_11)), (q_mt, .inr (2, [.ref q_i, .ref q_mtb, .ref q_mtl, .int mt_from, .int mt_to, .int mt_len, .int mt_dist])), (q_mtb, .inl (cI, 10000, .inl mt_bef)), (q_mtl, .inl (cI, 2048, .inl mt_lat))]) (va_runV (As := [.ref q_i, .int x1, .int x2]) (rest := []) hF (ct_Row_putFrom (l := l) (D := D) (cB := cB) (cI := cI) (tM := tM) (q_a := q_t) (q_aB := q_tB) (q_b := q_i) (q_bB := q_iB) (a_c := a_c_7) (a_f := a_f_8) (b_c := i_c) (b_f := i_f) (x2 := x1) (x3 := x2) (N := N) (a_c' := a_c_10) (a_f' := a_f_11) hm12 _) (cwV 3 hts (tpG_V wd_87 wd_88 wd_89 wd_3 wd_86) rfl rfl rfl ⟨rfl, yd_Row_putFrom⟩ ⟨Nat.le_of_ble_eq_true rfl, Nat.le_of_ble_eq_true rfl⟩) ⟨tp_blind, va_recv hw.1 hw.2.1 (ci := 3) (q0 := 3) rfl rfl, tp_pre hw [3, 4, 1, 2] rfl rfl⟩ rfl rfl hl.1 rfl (lv_room (Nat.le_of_ble_eq_true rfl)) d_BlockWriter_putLiterals_93 ⟨Nat.le_of_ble_eq_true rfl, Nat.le_of_ble_eq_true rfl⟩) hw [3, 4, 1, 2] [0, 5, 6, 7] [0, 6, 7, 4, 5, 1, 2, 3] rfl rfl rfl (by decide) rfl rfl (fun H locs hw => ?_)
        obtain ⟨rfl, rfl⟩ := tp_inj2 hm
        exact tp_vret () hx hb hr hlocks hw d_BlockWriter_putLiterals_96
      · replace hm := tp_if hc3 hm
        refine lv_aload_n hx hb d_BlockWriter_putLiterals_38 rfl (lv_at hl 1 rfl) ?_
        refine tp_get (v := .ref q_t) (C := R_BlockWriter) (T := T_BlockWriter) hx hb hts fw_BlockWriter hown hw 0 rfl rfl 1 (by decide +kernel) (hts _ wd_79) rfl d_BlockWriter_putLiterals_39 ?_
        refine lv_sipush (v := (240 : Int32)) hx hb d_BlockWriter_putLiterals_42 (by decide +kernel) ?_
        obtain ⟨a_c_13, a_f_14, hm15, hm⟩ := tp_b2_e hm
        refine tp_callv (wr := [(q_bw, .inr (1, [.ref q_i, .ref q_t, .ref q_mt])), (q_i, .inr (3, [.ref q_iB, .int i_c])), (q_iB, .inl (cB, 10000, .inl i_f)), (q_mt, .inr (2, [.ref q_i, .ref q_mtb, .ref q_mtl, .int mt_from, .int mt_to, .int mt_len, .int mt_dist])), (q_mtb, .inl (cI, 10000, .inl mt_bef)), (q_mtl, .inl (cI, 2048, .inl mt_lat))]) (WS' := [(q_bw, .inr (1, [.ref q_i, .ref q_t, .ref q_mt])), (q_i, .inr (3, [.ref q_iB, .int i_c])), (q_iB, .inl (cB, 10000, .inl i_f)), (q_t, .inr (3, [.ref q_tB, .int a_c_13])), (q_tB, .inl (cB, 10000, .inl a_f_14)), (q_mt, .inr (2, [.ref q_i, .ref q_mtb, .ref q_mtl, .int mt_from, .int mt_to, .int mt_len, .int mt_dist])), (q_mtb, .inl (cI, 10000, .inl mt_bef)), (q_mtl, .inl (cI, 2048, .inl mt_lat))]) (va_runV (As := [.int (240 : Int32)]) (rest := []) hF (ct_Row_put (l := l) (D := D) (cB := cB) (cI := cI) (tM := tM) (q_a := q_t) (q_aB := q_tB) (a_c := t_c) (a_f := t_f) (x1 := (240 : Int32)) (a_c' := a_c_13) (a_f' := a_f_14) hm15 _) (cwV 1 hts (tpG_V wd_80 wd_5 wd_6 wd_3 wd_2) rfl rfl rfl ⟨rfl, yd_Row_put⟩ ⟨Nat.le_of_ble_eq_true rfl, Nat.le_of_ble_eq_true rfl⟩) ⟨tp_blind, va_recv hw.1 hw.2.1 (ci := 3) (q0 := 3) rfl rfl, tp_pre hw [3, 4] rfl rfl⟩ rfl rfl hl.1 rfl (lv_room (Nat.le_of_ble_eq_true rfl)) d_BlockWriter_putLiterals_45 ⟨Nat.le_of_ble_eq_true rfl, Nat.le_of_ble_eq_true rfl⟩) hw [3, 4] [0, 1, 2, 5, 6, 7] [0, 1, 2, 6, 7, 3, 4, 5] rfl rfl rfl (by decide) rfl rfl (fun H locs hw => ?_)
        refine lv_aload_n hx hb d_BlockWriter_putLiterals_48 rfl (lv_at hl 1 rfl) ?_
        refine tp_get (v := .ref q_t) (C := R_BlockWriter) (T := T_BlockWriter) hx hb hts fw_BlockWriter hown hw 0 rfl rfl 1 (by decide +kernel) (hts _ wd_79) rfl d_BlockWriter_putLiterals_49 ?_
        refine lv_iload_n hx hb d_BlockWriter_putLiterals_52 rfl (lv_at hl 0 rfl) ?_
        refine lv_iconst (v := (1 : Int32)) hx hb d_BlockWriter_putLiterals_53 (by decide +kernel) ?_
        refine lv_isub hx hb d_BlockWriter_putLiterals_54 ?_
        refine lv_iconst (v := (1 : Int32)) hx hb d_BlockWriter_putLiterals_55 (by decide +kernel) ?_
        obtain ⟨a_c_16, a_f_17, hm18, hm⟩ := tp_b2_e hm
        refine tp_callv (wr := [(q_bw, .inr (1, [.ref q_i, .ref q_t, .ref q_mt])), (q_i, .inr (3, [.ref q_iB, .int i_c])), (q_iB, .inl (cB, 10000, .inl i_f)), (q_mt, .inr (2, [.ref q_i, .ref q_mtb, .ref q_mtl, .int mt_from, .int mt_to, .int mt_len, .int mt_dist])), (q_mtb, .inl (cI, 10000, .inl mt_bef)), (q_mtl, .inl (cI, 2048, .inl mt_lat))]) (WS' := [(q_bw, .inr (1, [.ref q_i, .ref q_t, .ref q_mt])), (q_i, .inr (3, [.ref q_iB, .int i_c])), (q_iB, .inl (cB, 10000, .inl i_f)), (q_t, .inr (3, [.ref q_tB, .int a_c_16])), (q_tB, .inl (cB, 10000, .inl a_f_17)), (q_mt, .inr (2, [.ref q_i, .ref q_mtb, .ref q_mtl, .int mt_from, .int mt_to, .int mt_len, .int mt_dist])), (q_mtb, .inl (cI, 10000, .inl mt_bef)), (q_mtl, .inl (cI, 2048, .inl mt_lat))]) (va_runV (As := [.int ((x2 - x1) - (1 : Int32)), .int (1 : Int32)]) (rest := []) hF (ct_Row_putNumber (l := l) (D := D) (cB := cB) (cI := cI) (tM := tM) (q_a := q_t) (q_aB := q_tB) (a_c := a_c_13) (a_f := a_f_14) (x1 := ((x2 - x1) - (1 : Int32))) (x2 := (1 : Int32)) (N := N) (a_c' := a_c_16) (a_f' := a_f_17) hm18 _) (cwV 2 hts (tpG_V wd_82 wd_83 wd_84 wd_3 wd_81) rfl rfl rfl ⟨rfl, yd_Row_putNumber⟩ ⟨Nat.le_of_ble_eq_true rfl, Nat.le_of_ble_eq_true rfl⟩) ⟨tp_blind, va_recv hw.1 hw.2.1 (ci := 3) (q0 := 3) rfl rfl, tp_pre hw [3, 4] rfl rfl⟩ rfl rfl hl.1 rfl (lv_room (Nat.le_of_ble_eq_true rfl)) d_BlockWriter_putLiterals_56 ⟨Nat.le_of_ble_eq_true rfl, Nat.le_of_ble_eq_true rfl⟩) hw [3, 4] [0, 1, 2, 5, 6, 7] [0, 1, 2, 6, 7, 3, 4, 5] rfl rfl rfl (by decide) rfl rfl (fun H locs hw => ?_)
        refine lv_goto (tgt := 83) hx hb d_BlockWriter_putLiterals_59 (by decide +kernel) ?_
        refine lv_aload_n hx hb d_BlockWriter_putLiterals_83 rfl (lv_at hl 1 rfl) ?_
        refine tp_get (v := .ref q_t) (C := R_BlockWriter) (T := T_BlockWriter) hx hb hts fw_BlockWriter hown hw 0 rfl rfl 1 (by decide +kernel) (hts _ wd_79) rfl d_BlockWriter_putLiterals_84 ?_
        refine lv_aload_n hx hb d_BlockWriter_putLiterals_87 rfl (lv_at hl 1 rfl) ?_
        refine tp_get (v := .ref q_i) (C := R_BlockWriter) (T := T_BlockWriter) hx hb hts fw_BlockWriter hown hw 0 rfl rfl 0 (by decide +kernel) (hts _ wd_85) rfl d_BlockWriter_putLiterals_88 ?_
        refine lv_iload_n hx hb d_BlockWriter_putLiterals_91 rfl (lv_at hl 2 rfl) ?_
        refine lv_iload_n hx hb d_BlockWriter_putLiterals_92 rfl (lv_at hl 3 rfl) ?_
        obtain ⟨a_c_19, a_f_20, hm21, hm⟩ := tp_b2_e hm
        refine tp_callv (wr := [(q_bw, .inr (1, [.ref q_i, .ref q_t, .ref q_mt])), (q_mt, .inr (2, [.ref q_i, .ref q_mtb, .ref q_mtl, .int mt_from, .int mt_to, .int mt_len, .int mt_dist])), (q_mtb, .inl (cI, 10000, .inl mt_bef)), (q_mtl, .inl (cI, 2048, .inl mt_lat))]) (WS' := [(q_bw, .inr (1, [.ref q_i, .ref q_t, .ref q_mt])), (q_i, .inr (3, [.ref q_iB, .int i_c])), (q_iB, .inl (cB, 10000, .inl i_f)), (q_t, .inr (3, [.ref q_tB, .int a_c_19])), (q_tB, .inl (cB, 10000, .inl a_f_20)), (q_mt, .inr (2, [.ref q_i, .ref q_mtb, .ref q_mtl, .int mt_from, .int mt_to, .int mt_len, .int mt_dist])), (q_mtb, .inl (cI, 10000, .inl mt_bef)), (q_mtl, .inl (cI, 2048, .inl mt_lat))]) (va_runV (As := [.ref q_i, .int x1, .int x2]) (rest := []) hF (ct_Row_putFrom (l := l) (D := D) (cB := cB) (cI := cI) (tM := tM) (q_a := q_t) (q_aB := q_tB) (q_b := q_i) (q_bB := q_iB) (a_c := a_c_16) (a_f := a_f_17) (b_c := i_c) (b_f := i_f) (x2 := x1) (x3 := x2) (N := N) (a_c' := a_c_19) (a_f' := a_f_20) hm21 _) (cwV 3 hts (tpG_V wd_87 wd_88 wd_89 wd_3 wd_86) rfl rfl rfl ⟨rfl, yd_Row_putFrom⟩ ⟨Nat.le_of_ble_eq_true rfl, Nat.le_of_ble_eq_true rfl⟩) ⟨tp_blind, va_recv hw.1 hw.2.1 (ci := 3) (q0 := 3) rfl rfl, tp_pre hw [3, 4, 1, 2] rfl rfl⟩ rfl rfl hl.1 rfl (lv_room (Nat.le_of_ble_eq_true rfl)) d_BlockWriter_putLiterals_93 ⟨Nat.le_of_ble_eq_true rfl, Nat.le_of_ble_eq_true rfl⟩) hw [3, 4, 1, 2] [0, 5, 6, 7] [0, 6, 7, 4, 5, 1, 2, 3] rfl rfl rfl (by decide) rfl rfl (fun H locs hw => ?_)
        obtain ⟨rfl, rfl⟩ := tp_inj2 hm
        exact tp_vret () hx hb hr hlocks hw d_BlockWriter_putLiterals_96
    · replace hm := tp_if hc2 hm
      refine lv_aload_n hx hb d_BlockWriter_putLiterals_16 rfl (lv_at hl 1 rfl) ?_
      refine tp_get (v := .ref q_t) (C := R_BlockWriter) (T := T_BlockWriter) hx hb hts fw_BlockWriter hown hw 0 rfl rfl 1 (by decide +kernel) (hts _ wd_79) rfl d_BlockWriter_putLiterals_17 ?_
      refine lv_iload_n hx hb d_BlockWriter_putLiterals_20 rfl (lv_at hl 0 rfl) ?_
      refine lv_iconst (v := (1 : Int32)) hx hb d_BlockWriter_putLiterals_21 (by decide +kernel) ?_
      refine lv_isub hx hb d_BlockWriter_putLiterals_22 ?_
      refine lv_iconst (v := (2 : Int32)) hx hb d_BlockWriter_putLiterals_23 (by decide +kernel) ?_
      refine lv_ishl hx hb d_BlockWriter_putLiterals_24 ?_
      obtain ⟨a_c_22, a_f_23, hm24, hm⟩ := tp_b2_e hm
      refine tp_callv (wr := [(q_bw, .inr (1, [.ref q_i, .ref q_t, .ref q_mt])), (q_i, .inr (3, [.ref q_iB, .int i_c])), (q_iB, .inl (cB, 10000, .inl i_f)), (q_mt, .inr (2, [.ref q_i, .ref q_mtb, .ref q_mtl, .int mt_from, .int mt_to, .int mt_len, .int mt_dist])), (q_mtb, .inl (cI, 10000, .inl mt_bef)), (q_mtl, .inl (cI, 2048, .inl mt_lat))]) (WS' := [(q_bw, .inr (1, [.ref q_i, .ref q_t, .ref q_mt])), (q_i, .inr (3, [.ref q_iB, .int i_c])), (q_iB, .inl (cB, 10000, .inl i_f)), (q_t, .inr (3, [.ref q_tB, .int a_c_22])), (q_tB, .inl (cB, 10000, .inl a_f_23)), (q_mt, .inr (2, [.ref q_i, .ref q_mtb, .ref q_mtl, .int mt_from, .int mt_to, .int mt_len, .int mt_dist])), (q_mtb, .inl (cI, 10000, .inl mt_bef)), (q_mtl, .inl (cI, 2048, .inl mt_lat))]) (va_runV (As := [.int (((x2 - x1) - (1 : Int32)) <<< ((2 : Int32) &&& 31))]) (rest := []) hF (ct_Row_put (l := l) (D := D) (cB := cB) (cI := cI) (tM := tM) (q_a := q_t) (q_aB := q_tB) (a_c := t_c) (a_f := t_f) (x1 := (((x2 - x1) - (1 : Int32)) <<< ((2 : Int32) &&& 31))) (a_c' := a_c_22) (a_f' := a_f_23) hm24 _) (cwV 1 hts (tpG_V wd_80 wd_5 wd_6 wd_3 wd_2) rfl rfl rfl ⟨rfl, yd_Row_put⟩ ⟨Nat.le_of_ble_eq_true rfl, Nat.le_of_ble_eq_true rfl⟩) ⟨tp_blind, va_recv hw.1 hw.2.1 (ci := 3) (q0 := 3) rfl rfl, tp_pre hw [3, 4] rfl rfl⟩ rfl rfl hl.1 rfl (lv_room (Nat.le_of_ble_eq_true rfl)) d_BlockWriter_putLiterals_25 ⟨Nat.le_of_ble_eq_true rfl, Nat.le_of_ble_eq_true rfl⟩) hw [3, 4] [0, 1, 2, 5, 6, 7] [0, 1, 2, 6, 7, 3, 4, 5] rfl rfl rfl (by decide) rfl rfl (fun H locs hw => ?_)
      refine lv_goto (tgt := 83) hx hb d_BlockWriter_putLiterals_28 (by decide +kernel) ?_
      refine lv_aload_n hx hb d_BlockWriter_putLiterals_83 rfl (lv_at hl 1 rfl) ?_
      refine tp_get (v := .ref q_t) (C := R_BlockWriter) (T := T_BlockWriter) hx hb hts fw_BlockWriter hown hw 0 rfl rfl 1 (by decide +kernel) (hts _ wd_79) rfl d_BlockWriter_putLiterals_84 ?_
      refine lv_aload_n hx hb d_BlockWriter_putLiterals_87 rfl (lv_at hl 1 rfl) ?_
      refine tp_get (v := .ref q_i) (C := R_BlockWriter) (T := T_BlockWriter) hx hb hts fw_BlockWriter hown hw 0 rfl rfl 0 (by decide +kernel) (hts _ wd_85) rfl d_BlockWriter_putLiterals_88 ?_
      refine lv_iload_n hx hb d_BlockWriter_putLiterals_91 rfl (lv_at hl 2 rfl) ?_
      refine lv_iload_n hx hb d_BlockWriter_putLiterals_92 rfl (lv_at hl 3 rfl) ?_
      obtain ⟨a_c_25, a_f_26, hm27, hm⟩ := tp_b2_e hm
      refine tp_callv (wr := [(q_bw, .inr (1, [.ref q_i, .ref q_t, .ref q_mt])), (q_mt, .inr (2, [.ref q_i, .ref q_mtb, .ref q_mtl, .int mt_from, .int mt_to, .int mt_len, .int mt_dist])), (q_mtb, .inl (cI, 10000, .inl mt_bef)), (q_mtl, .inl (cI, 2048, .inl mt_lat))]) (WS' := [(q_bw, .inr (1, [.ref q_i, .ref q_t, .ref q_mt])), (q_i, .inr (3, [.ref q_iB, .int i_c])), (q_iB, .inl (cB, 10000, .inl i_f)), (q_t, .inr (3, [.ref q_tB, .int a_c_25])), (q_tB, .inl (cB, 10000, .inl a_f_26)), (q_mt, .inr (2, [.ref q_i, .ref q_mtb, .ref q_mtl, .int mt_from, .int mt_to, .int mt_len, .int mt_dist])), (q_mtb, .inl (cI, 10000, .inl mt_bef)), (q_mtl, .inl (cI, 2048, .inl mt_lat))]) (va_runV (As := [.ref q_i, .int x1, .int x2]) (rest := []) hF (ct_Row_putFrom (l := l) (D := D) (cB := cB) (cI := cI) (tM := tM) (q_a := q_t) (q_aB := q_tB) (q_b := q_i) (q_bB := q_iB) (a_c := a_c_22) (a_f := a_f_23) (b_c := i_c) (b_f := i_f) (x2 := x1) (x3 := x2) (N := N) (a_c' := a_c_25) (a_f' := a_f_26) hm27 _) (cwV 3 hts (tpG_V wd_87 wd_88 wd_89 wd_3 wd_86) rfl rfl rfl ⟨rfl, yd_Row_putFrom⟩ ⟨Nat.le_of_ble_eq_true rfl, Nat.le_of_ble_eq_true rfl⟩) ⟨tp_blind, va_recv hw.1 hw.2.1 (ci := 3) (q0 := 3) rfl rfl, tp_pre hw [3, 4, 1, 2] rfl rfl⟩ rfl rfl hl.1 rfl (lv_room (Nat.le_of_ble_eq_true rfl)) d_BlockWriter_putLiterals_93 ⟨Nat.le_of_ble_eq_true rfl, Nat.le_of_ble_eq_true rfl⟩) hw [3, 4, 1, 2] [0, 5, 6, 7] [0, 6, 7, 4, 5, 1, 2, 3] rfl rfl rfl (by decide) rfl rfl (fun H locs hw => ?_)
      obtain ⟨rfl, rfl⟩ := tp_inj2 hm
      exact tp_vret () hx hb hr hlocks hw d_BlockWriter_putLiterals_96
  · replace hm := tp_if hc1 hm
    obtain ⟨rfl, rfl⟩ := tp_inj2 hm
    exact tp_vret () hx hb hr hlocks hw d_BlockWriter_putLiterals_9
end
abbrev rm_BlockWriter_putMatch : Room := { frames := 2, cells := 0, slots := 0, locals := 44 }
abbrev ws_BlockWriter_putMatch : List Cond := .code y_BlockWriter_putMatch c_BlockWriter_putMatch 6 none :: tpG
noncomputable def m_BlockWriter_putMatch_104 (N : Nat) (rec16 : Int32 → Int32 → Int32 → Int32 → (Nat → Int32) → Option (Int32 × (Nat → Int32))) (x2 : Int32) (x3 : Int32) (x4 : Int32) (x5 : Int32) (t_c : Int32) (t_f : Nat → Int32) : Option (Int32 × (Nat → Int32)) :=
  tp_b2 (m_Row_put ((2 : Int32) ||| ((x5 - (1 : Int32)) <<< ((2 : Int32) &&& 31))) t_c t_f) fun a_c_16 a_f_17 =>
  tp_b2 (m_Row_putNumber N x2 (2 : Int32) a_c_16 a_f_17) fun a_c_19 a_f_20 =>
  rec16 x2 x3 (x4 - x5) a_c_19 a_f_20
noncomputable def m_BlockWriter_putMatch_54 (N : Nat) (rec16 : Int32 → Int32 → Int32 → Int32 → (Nat → Int32) → Option (Int32 × (Nat → Int32))) (x2 : Int32) (x3 : Int32) (x4 : Int32) (x5 : Int32) (t_c : Int32) (t_f : Nat → Int32) : Option (Int32 × (Nat → Int32)) :=
  if x3 = 0 then
    m_BlockWriter_putMatch_104 N rec16 x2 x3 x4 x5 t_c t_f
  else
    if x5 < (4 : Int32) then
      m_BlockWriter_putMatch_104 N rec16 x2 x3 x4 x5 t_c t_f
    else
      if (11 : Int32) < x5 then
        m_BlockWriter_putMatch_104 N rec16 x2 x3 x4 x5 t_c t_f
      else
        tp_b2 (m_Row_put (((1 : Int32) ||| ((x5 - (4 : Int32)) <<< ((2 : Int32) &&& 31))) ||| ((x2 >>> ((8 : Int32) &&& 31)) <<< ((5 : Int32) &&& 31))) t_c t_f) fun a_c_10 a_f_11 =>
        tp_b2 (m_Row_put x2 a_c_10 a_f_11) fun a_c_13 a_f_14 =>
        rec16 x2 x3 (x4 - x5) a_c_13 a_f_14
noncomputable def m_BlockWriter_putMatch_16 (N : Nat) (rec16 : Int32 → Int32 → Int32 → Int32 → (Nat → Int32) → Option (Int32 × (Nat → Int32))) (x2 : Int32) (x3 : Int32) (x4 : Int32) (t_c : Int32) (t_f : Nat → Int32) : Option (Int32 × (Nat → Int32)) :=
  if x4 ≤ 0 then
    some (t_c, t_f)
  else
    tp_b0 (if (64 : Int32) < x4 then (64 : Int32) else x4) fun y3 =>
    if x3 = 0 then
      m_BlockWriter_putMatch_54 N rec16 x2 x3 x4 y3 t_c t_f
    else
      if x4 ≤ (64 : Int32) then
        m_BlockWriter_putMatch_54 N rec16 x2 x3 x4 y3 t_c t_f
      else
        if (68 : Int32) ≤ x4 then
          m_BlockWriter_putMatch_54 N rec16 x2 x3 x4 y3 t_c t_f
        else
          m_BlockWriter_putMatch_54 N rec16 x2 x3 x4 (x4 - (4 : Int32)) t_c t_f
noncomputable def m_BlockWriter_putMatch (N : Nat) (x1 : Int32) (x2 : Int32) (t_c : Int32) (t_f : Nat → Int32) : Option (Int32 × (Nat → Int32)) :=
  if (2048 : Int32) ≤ x2 then
    tp_it5 (m_BlockWriter_putMatch_16 N ) N x2 (0 : Int32) x1 t_c t_f
  else
    tp_it5 (m_BlockWriter_putMatch_16 N ) N x2 (1 : Int32) x1 t_c t_f
section
variable {p : Program} {l : Launch} {e : Env} {s : State} {m : MethodId} {args : Array Value} {below : List Frame} {meth : Method} {c : Code} {A : Nat → Prop} {D : va_G} {cB cI : ClassId} {tM : Nat}
set_option maxHeartbeats 4000000 in
set_option maxRecDepth 100000 in
theorem w_BlockWriter_putMatch_104 {q_bw q_i q_iB q_t q_tB q_mt q_mtb q_mtl : Nat} {i_c : Int32} {i_f : Nat → Int32} {mt_from : Int32} {mt_to : Int32} {mt_len : Int32} {mt_dist : Int32} {mt_bef : Nat → Int32} {mt_lat : Nat → Int32} {N : Nat} {t_c' : Int32} {t_f' : Nat → Int32} {rec16 : Int32 → Int32 → Int32 → Int32 → (Nat → Int32) → Option (Int32 × (Nat → Int32))} (hF2 : tp_F p m c c_BlockWriter_putMatch 6 s args tpG R_BlockWriter meth none) (ih16 : ∀ (x2 : Int32) (x3 : Int32) (x4 : Int32) (t_c : Int32) (t_f : Nat → Int32) (H : Heap) (locs : List Loc) (ls : Array Slot), rec16 x2 x3 x4 t_c t_f = some (t_c', t_f') → tp_Wd D (tp_ty cB cI) tM A s H locs [(q_bw, .inr (1, [.ref q_i, .ref q_t, .ref q_mt])), (q_i, .inr (3, [.ref q_iB, .int i_c])), (q_iB, .inl (cB, 10000, .inl i_f)), (q_t, .inr (3, [.ref q_tB, .int t_c])), (q_tB, .inl (cB, 10000, .inl t_f)), (q_mt, .inr (2, [.ref q_i, .ref q_mtb, .ref q_mtl, .int mt_from, .int mt_to, .int mt_len, .int mt_dist])), (q_mtb, .inl (cI, 10000, .inl mt_bef)), (q_mtl, .inl (cI, 2048, .inl mt_lat))] → lv_has ls 6 [(0, .ref q_bw), (2, .int x2), (3, .int x3), (4, .int x4)] → W p l e rm_BlockWriter_putMatch s m args below meth c H locs 0 0 (MQ below (tp_Qv (S := Unit) D A (fun _ => [(q_bw, .inr (1, [.ref q_i, .ref q_t, .ref q_mt])), (q_i, .inr (3, [.ref q_iB, .int i_c])), (q_iB, .inl (cB, 10000, .inl i_f)), (q_t, .inr (3, [.ref q_tB, .int t_c'])), (q_tB, .inl (cB, 10000, .inl t_f')), (q_mt, .inr (2, [.ref q_i, .ref q_mtb, .ref q_mtl, .int mt_from, .int mt_to, .int mt_len, .int mt_dist])), (q_mtb, .inl (cI, 10000, .inl mt_bef)), (q_mtl, .inl (cI, 2048, .inl mt_lat))])) args s 0 0 A) (F0 m 16 ls [])) : ∀ (x2 : Int32) (x3 : Int32) (x4 : Int32) (x5 : Int32) (t_c : Int32) (t_f : Nat → Int32) (H : Heap) (locs : List Loc) (ls : Array Slot), m_BlockWriter_putMatch_104 N rec16 x2 x3 x4 x5 t_c t_f = some (t_c', t_f') → tp_Wd D (tp_ty cB cI) tM A s H locs [(q_bw, .inr (1, [.ref q_i, .ref q_t, .ref q_mt])), (q_i, .inr (3, [.ref q_iB, .int i_c])), (q_iB, .inl (cB, 10000, .inl i_f)), (q_t, .inr (3, [.ref q_tB, .int t_c])), (q_tB, .inl (cB, 10000, .inl t_f)), (q_mt, .inr (2, [.ref q_i, .ref q_mtb, .ref q_mtl, .int mt_from, .int mt_to, .int mt_len, .int mt_dist])), (q_mtb, .inl (cI, 10000, .inl mt_bef)), (q_mtl, .inl (cI, 2048, .inl mt_lat))] → lv_has ls 6 [(0, .ref q_bw), (2, .int x2), (3, .int x3), (4, .int x4), (5, .int x5)] → W p l e rm_BlockWriter_putMatch s m args below meth c H locs 0 0 (MQ below (tp_Qv (S := Unit) D A (fun _ => [(q_bw, .inr (1, [.ref q_i, .ref q_t, .ref q_mt])), (q_i, .inr (3, [.ref q_iB, .int i_c])), (q_iB, .inl (cB, 10000, .inl i_f)), (q_t, .inr (3, [.ref q_tB, .int t_c'])), (q_tB, .inl (cB, 10000, .inl t_f')), (q_mt, .inr (2, [.ref q_i, .ref q_mtb, .ref q_mtl, .int mt_from, .int mt_to, .int mt_len, .int mt_dist])), (q_mtb, .inl (cI, 10000, .inl mt_bef)), (q_mtl, .inl (cI, 2048, .inl mt_lat))])) args s 0 0 A) (F0 m 104 ls []) := by
  obtain ⟨hF, hr, hlocks⟩ := id hF2
  obtain ⟨hx, hb, hml, hown, hts⟩ := id hF
  intro x2 x3 x4 x5 t_c t_f H locs ls hm hw hl
  unfold m_BlockWriter_putMatch_104 at hm
  refine lv_aload_n hx hb d_BlockWriter_putMatch_104 rfl (lv_at hl 0 rfl) ?_
  refine tp_get (v := .ref q_t) (C := R_BlockWriter) (T := T_BlockWriter) hx hb hts fw_BlockWriter hown hw 0 rfl rfl 1 (by decide +kernel) (hts _ wd_79) rfl d_BlockWriter_putMatch_105 ?_
  refine lv_iconst (v := (2 : Int32)) hx hb d_BlockWriter_putMatch_108 (by decide +kernel) ?_
  refine lv_iload hx hb d_BlockWriter_putMatch_109 (lv_at hl 4 rfl) ?_
  refine lv_iconst (v := (1 : Int32)) hx hb d_BlockWriter_putMatch_111 (by decide +kernel) ?_
  refine lv_isub hx hb d_BlockWriter_putMatch_112 ?_
  refine lv_iconst (v := (2 : Int32)) hx hb d_BlockWriter_putMatch_113 (by decide +kernel) ?_
  refine lv_ishl hx hb d_BlockWriter_putMatch_114 ?_
  refine lv_ior hx hb d_BlockWriter_putMatch_115 ?_
  obtain ⟨a_c_16, a_f_17, hm18, hm⟩ := tp_b2_e hm
  refine tp_callv (wr := [(q_bw, .inr (1, [.ref q_i, .ref q_t, .ref q_mt])), (q_i, .inr (3, [.ref q_iB, .int i_c])), (q_iB, .inl (cB, 10000, .inl i_f)), (q_mt, .inr (2, [.ref q_i, .ref q_mtb, .ref q_mtl, .int mt_from, .int mt_to, .int mt_len, .int mt_dist])), (q_mtb, .inl (cI, 10000, .inl mt_bef)), (q_mtl, .inl (cI, 2048, .inl mt_lat))]) (WS' := [(q_bw, .inr (1, [.ref q_i, .ref q_t, .ref q_mt])), (q_i, .inr (3, [.ref q_iB, .int i_c])), (q_iB, .inl (cB, 10000, .inl i_f)), (q_t, .inr (3, [.ref q_tB, .int a_c_16])), (q_tB, .inl (cB, 10000, .inl a_f_17)), (q_mt, .inr (2, [.ref q_i, .ref q_mtb, .ref q_mtl, .int mt_from, .int mt_to, .int mt_len, .int mt_dist])), (q_mtb, .inl (cI, 10000, .inl mt_bef)), (q_mtl, .inl (cI, 2048, .inl mt_lat))]) (va_runV (As := [.int ((2 : Int32) ||| ((x5 - (1 : Int32)) <<< ((2 : Int32) &&& 31)))]) (rest := []) hF (ct_Row_put (l := l) (D := D) (cB := cB) (cI := cI) (tM := tM) (q_a := q_t) (q_aB := q_tB) (a_c := t_c) (a_f := t_f) (x1 := ((2 : Int32) ||| ((x5 - (1 : Int32)) <<< ((2 : Int32) &&& 31)))) (a_c' := a_c_16) (a_f' := a_f_17) hm18 _) (cwV 1 hts (tpG_V wd_80 wd_5 wd_6 wd_3 wd_2) rfl rfl rfl ⟨rfl, yd_Row_put⟩ ⟨Nat.le_of_ble_eq_true rfl, Nat.le_of_ble_eq_true rfl⟩) ⟨tp_blind, va_recv hw.1 hw.2.1 (ci := 3) (q0 := 3) rfl rfl, tp_pre hw [3, 4] rfl rfl⟩ rfl rfl hl.1 rfl (lv_room (Nat.le_of_ble_eq_true rfl)) d_BlockWriter_putMatch_116 ⟨Nat.le_of_ble_eq_true rfl, Nat.le_of_ble_eq_true rfl⟩) hw [3, 4] [0, 1, 2, 5, 6, 7] [0, 1, 2, 6, 7, 3, 4, 5] rfl rfl rfl (by decide) rfl rfl (fun H locs hw => ?_)
  refine lv_aload_n hx hb d_BlockWriter_putMatch_119 rfl (lv_at hl 0 rfl) ?_
  refine tp_get (v := .ref q_t) (C := R_BlockWriter) (T := T_BlockWriter) hx hb hts fw_BlockWriter hown hw 0 rfl rfl 1 (by decide +kernel) (hts _ wd_79) rfl d_BlockWriter_putMatch_120 ?_
  refine lv_iload_n hx hb d_BlockWriter_putMatch_123 rfl (lv_at hl 1 rfl) ?_
  refine lv_iconst (v := (2 : Int32)) hx hb d_BlockWriter_putMatch_124 (by decide +kernel) ?_
  obtain ⟨a_c_19, a_f_20, hm21, hm⟩ := tp_b2_e hm
  refine tp_callv (wr := [(q_bw, .inr (1, [.ref q_i, .ref q_t, .ref q_mt])), (q_i, .inr (3, [.ref q_iB, .int i_c])), (q_iB, .inl (cB, 10000, .inl i_f)), (q_mt, .inr (2, [.ref q_i, .ref q_mtb, .ref q_mtl, .int mt_from, .int mt_to, .int mt_len, .int mt_dist])), (q_mtb, .inl (cI, 10000, .inl mt_bef)), (q_mtl, .inl (cI, 2048, .inl mt_lat))]) (WS' := [(q_bw, .inr (1, [.ref q_i, .ref q_t, .ref q_mt])), (q_i, .inr (3, [.ref q_iB, .int i_c])), (q_iB, .inl (cB, 10000, .inl i_f)), (q_t, .inr (3, [.ref q_tB, .int a_c_19])), (q_tB, .inl (cB, 10000, .inl a_f_20)), (q_mt, .inr (2, [.ref q_i, .ref q_mtb, .ref q_mtl, .int mt_from, .int mt_to, .int mt_len, .int mt_dist])), (q_mtb, .inl (cI, 10000, .inl mt_bef)), (q_mtl, .inl (cI, 2048, .inl mt_lat))]) (va_runV (As := [.int x2, .int (2 : Int32)]) (rest := []) hF (ct_Row_putNumber (l := l) (D := D) (cB := cB) (cI := cI) (tM := tM) (q_a := q_t) (q_aB := q_tB) (a_c := a_c_16) (a_f := a_f_17) (x1 := x2) (x2 := (2 : Int32)) (N := N) (a_c' := a_c_19) (a_f' := a_f_20) hm21 _) (cwV 2 hts (tpG_V wd_82 wd_83 wd_84 wd_3 wd_81) rfl rfl rfl ⟨rfl, yd_Row_putNumber⟩ ⟨Nat.le_of_ble_eq_true rfl, Nat.le_of_ble_eq_true rfl⟩) ⟨tp_blind, va_recv hw.1 hw.2.1 (ci := 3) (q0 := 3) rfl rfl, tp_pre hw [3, 4] rfl rfl⟩ rfl rfl hl.1 rfl (lv_room (Nat.le_of_ble_eq_true rfl)) d_BlockWriter_putMatch_125 ⟨Nat.le_of_ble_eq_true rfl, Nat.le_of_ble_eq_true rfl⟩) hw [3, 4] [0, 1, 2, 5, 6, 7] [0, 1, 2, 6, 7, 3, 4, 5] rfl rfl rfl (by decide) rfl rfl (fun H locs hw => ?_)
  refine lv_iload hx hb d_BlockWriter_putMatch_128 (lv_at hl 3 rfl) ?_
  refine lv_iload hx hb d_BlockWriter_putMatch_130 (lv_at hl 4 rfl) ?_
  refine lv_isub hx hb d_BlockWriter_putMatch_132 ?_
  refine lv_istore (lv' := [(4, .int (x4 - x5)), (0, .ref q_bw), (2, .int x2), (3, .int x3), (5, .int x5)]) hx hb d_BlockWriter_putMatch_133 hl (by decide +kernel) rfl (fun ls hl => ?_)
  refine lv_goto (tgt := 16) hx hb d_BlockWriter_putMatch_135 (by decide +kernel) ?_
  exact ih16 _ _ _ _ _ _ _ _ hm hw (lv_sub hl [1, 2, 3, 0] rfl)
set_option maxHeartbeats 4000000 in
set_option maxRecDepth 100000 in
theorem w_BlockWriter_putMatch_54 {q_bw q_i q_iB q_t q_tB q_mt q_mtb q_mtl : Nat} {i_c : Int32} {i_f : Nat → Int32} {mt_from : Int32} {mt_to : Int32} {mt_len : Int32} {mt_dist : Int32} {mt_bef : Nat → Int32} {mt_lat : Nat → Int32} {N : Nat} {t_c' : Int32} {t_f' : Nat → Int32} {rec16 : Int32 → Int32 → Int32 → Int32 → (Nat → Int32) → Option (Int32 × (Nat → Int32))} (hF2 : tp_F p m c c_BlockWriter_putMatch 6 s args tpG R_BlockWriter meth none) (ih16 : ∀ (x2 : Int32) (x3 : Int32) (x4 : Int32) (t_c : Int32) (t_f : Nat → Int32) (H : Heap) (locs : List Loc) (ls : Array Slot), rec16 x2 x3 x4 t_c t_f = some (t_c', t_f') → tp_Wd D (tp_ty cB cI) tM A s H locs [(q_bw, .inr (1, [.ref q_i, .ref q_t, .ref q_mt])), (q_i, .inr (3, [.ref q_iB, .int i_c])), (q_iB, .inl (cB, 10000, .inl i_f)), (q_t, .inr (3, [.ref q_tB, .int t_c])), (q_tB, .inl (cB, 10000, .inl t_f)), (q_mt, .inr (2, [.ref q_i, .ref q_mtb, .ref q_mtl, .int mt_from, .int mt_to, .int mt_len, .int mt_dist])), (q_mtb, .inl (cI, 10000, .inl mt_bef)), (q_mtl, .inl (cI, 2048, .inl mt_lat))] → lv_has ls 6 [(0, .ref q_bw), (2, .int x2), (3, .int x3), (4, .int x4)] → W p l e rm_BlockWriter_putMatch s m args below meth c H locs 0 0 (MQ below (tp_Qv (S := Unit) D A (fun _ => [(q_bw, .inr (1, [.ref q_i, .ref q_t, .ref q_mt])), (q_i, .inr (3, [.ref q_iB, .int i_c])), (q_iB, .inl (cB, 10000, .inl i_f)), (q_t, .inr (3, [.ref q_tB, .int t_c'])), (q_tB, .inl (cB, 10000, .inl t_f')), (q_mt, .inr (2, [.ref q_i, .ref q_mtb, .ref q_mtl, .int mt_from, .int mt_to, .int mt_len, .int mt_dist])), (q_mtb, .inl (cI, 10000, .inl mt_bef)), (q_mtl, .inl (cI, 2048, .inl mt_lat))])) args s 0 0 A) (F0 m 16 ls [])) : ∀ (x2 : Int32) (x3 : Int32) (x4 : Int32) (x5 : Int32) (t_c : Int32) (t_f : Nat → Int32) (H : Heap) (locs : List Loc) (ls : Array Slot), m_BlockWriter_putMatch_54 N rec16 x2 x3 x4 x5 t_c t_f = some (t_c', t_f') → tp_Wd D (tp_ty cB cI) tM A s H locs [(q_bw, .inr (1, [.ref q_i, .ref q_t, .ref q_mt])), (q_i, .inr (3, [.ref q_iB, .int i_c])), (q_iB, .inl (cB, 10000, .inl i_f)), (q_t, .inr (3, [.ref q_tB, .int t_c])), (q_tB, .inl (cB, 10000, .inl t_f)), (q_mt, .inr (2, [.ref q_i, .ref q_mtb, .ref q_mtl, .int mt_from, .int mt_to, .int mt_len, .int mt_dist])), (q_mtb, .inl (cI, 10000, .inl mt_bef)), (q_mtl, .inl (cI, 2048, .inl mt_lat))] → lv_has ls 6 [(0, .ref q_bw), (2, .int x2), (3, .int x3), (4, .int x4), (5, .int x5)] → W p l e rm_BlockWriter_putMatch s m args below meth c H locs 0 0 (MQ below (tp_Qv (S := Unit) D A (fun _ => [(q_bw, .inr (1, [.ref q_i, .ref q_t, .ref q_mt])), (q_i, .inr (3, [.ref q_iB, .int i_c])), (q_iB, .inl (cB, 10000, .inl i_f)), (q_t, .inr (3, [.ref q_tB, .int t_c'])), (q_tB, .inl (cB, 10000, .inl t_f')), (q_mt, .inr (2, [.ref q_i, .ref q_mtb, .ref q_mtl, .int mt_from, .int mt_to, .int mt_len, .int mt_dist])), (q_mtb, .inl (cI, 10000, .inl mt_bef)), (q_mtl, .inl (cI, 2048, .inl mt_lat))])) args s 0 0 A) (F0 m 54 ls []) := by
  obtain ⟨hF, hr, hlocks⟩ := id hF2
  obtain ⟨hx, hb, hml, hown, hts⟩ := id hF
  intro x2 x3 x4 x5 t_c t_f H locs ls hm hw hl
  unfold m_BlockWriter_putMatch_54 at hm
  refine lv_iload_n hx hb d_BlockWriter_putMatch_54 rfl (lv_at hl 2 rfl) ?_
  refine lv_if_eq (tgt := 104) hx hb d_BlockWriter_putMatch_55 (by decide +kernel) (fun hc7 => ?_) (fun hc7 => ?_)
  · replace hm := tp_it hc7 hm
    exact w_BlockWriter_putMatch_104 hF2 ih16 _ _ _ _ _ _ _ _ _ hm hw (lv_sub hl [0, 1, 2, 3, 4] rfl)
  · replace hm := tp_if hc7 hm
    refine lv_iload hx hb d_BlockWriter_putMatch_58 (lv_at hl 4 rfl) ?_
    refine lv_iconst (v := (4 : Int32)) hx hb d_BlockWriter_putMatch_60 (by decide +kernel) ?_
    refine lv_icmp_lt (tgt := 104) hx hb d_BlockWriter_putMatch_61 (by decide +kernel) (fun hc8 => ?_) (fun hc8 => ?_)
    · replace hm := tp_it hc8 hm
      exact w_BlockWriter_putMatch_104 hF2 ih16 _ _ _ _ _ _ _ _ _ hm hw (lv_sub hl [0, 1, 2, 3, 4] rfl)
    · replace hm := tp_if hc8 hm
      refine lv_iload hx hb d_BlockWriter_putMatch_64 (lv_at hl 4 rfl) ?_
      refine lv_bipush (v := (11 : Int32)) hx hb d_BlockWriter_putMatch_66 (by decide +kernel) ?_
      refine lv_icmp_gt (tgt := 104) hx hb d_BlockWriter_putMatch_68 (by decide +kernel) (fun hc9 => ?_) (fun hc9 => ?_)
      · replace hm := tp_it hc9 hm
        exact w_BlockWriter_putMatch_104 hF2 ih16 _ _ _ _ _ _ _ _ _ hm hw (lv_sub hl [0, 1, 2, 3, 4] rfl)
      · replace hm := tp_if hc9 hm
        refine lv_aload_n hx hb d_BlockWriter_putMatch_71 rfl (lv_at hl 0 rfl) ?_
        refine tp_get (v := .ref q_t) (C := R_BlockWriter) (T := T_BlockWriter) hx hb hts fw_BlockWriter hown hw 0 rfl rfl 1 (by decide +kernel) (hts _ wd_79) rfl d_BlockWriter_putMatch_72 ?_
        refine lv_iconst (v := (1 : Int32)) hx hb d_BlockWriter_putMatch_75 (by decide +kernel) ?_
        refine lv_iload hx hb d_BlockWriter_putMatch_76 (lv_at hl 4 rfl) ?_
        refine lv_iconst (v := (4 : Int32)) hx hb d_BlockWriter_putMatch_78 (by decide +kernel) ?_
        refine lv_isub hx hb d_BlockWriter_putMatch_79 ?_
        refine lv_iconst (v := (2 : Int32)) hx hb d_BlockWriter_putMatch_80 (by decide +kernel) ?_
        refine lv_ishl hx hb d_BlockWriter_putMatch_81 ?_
        refine lv_ior hx hb d_BlockWriter_putMatch_82 ?_
        refine lv_iload_n hx hb d_BlockWriter_putMatch_83 rfl (lv_at hl 1 rfl) ?_
        refine lv_bipush (v := (8 : Int32)) hx hb d_BlockWriter_putMatch_84 (by decide +kernel) ?_
        refine lv_ishr hx hb d_BlockWriter_putMatch_86 ?_
        refine lv_iconst (v := (5 : Int32)) hx hb d_BlockWriter_putMatch_87 (by decide +kernel) ?_
        refine lv_ishl hx hb d_BlockWriter_putMatch_88 ?_
        refine lv_ior hx hb d_BlockWriter_putMatch_89 ?_
        obtain ⟨a_c_10, a_f_11, hm12, hm⟩ := tp_b2_e hm
        refine tp_callv (wr := [(q_bw, .inr (1, [.ref q_i, .ref q_t, .ref q_mt])), (q_i, .inr (3, [.ref q_iB, .int i_c])), (q_iB, .inl (cB, 10000, .inl i_f)), (q_mt, .inr (2, [.ref q_i, .ref q_mtb, .ref q_mtl, .int mt_from, .int mt_to, .int mt_len, .int mt_dist])), (q_mtb, .inl (cI, 10000, .inl mt_bef)), (q_mtl, .inl (cI, 2048, .inl mt_lat))]) (WS' := [(q_bw, .inr (1, [.ref q_i, .ref q_t, .ref q_mt])), (q_i, .inr (3, [.ref q_iB, .int i_c])), (q_iB, .inl (cB, 10000, .inl i_f)), (q_t, .inr (3, [.ref q_tB, .int a_c_10])), (q_tB, .inl (cB, 10000, .inl a_f_11)), (q_mt, .inr (2, [.ref q_i, .ref q_mtb, .ref q_mtl, .int mt_from, .int mt_to, .int mt_len, .int mt_dist])), (q_mtb, .inl (cI, 10000, .inl mt_bef)), (q_mtl, .inl (cI, 2048, .inl mt_lat))]) (va_runV (As := [.int (((1 : Int32) ||| ((x5 - (4 : Int32)) <<< ((2 : Int32) &&& 31))) ||| ((x2 >>> ((8 : Int32) &&& 31)) <<< ((5 : Int32) &&& 31)))]) (rest := []) hF (ct_Row_put (l := l) (D := D) (cB := cB) (cI := cI) (tM := tM) (q_a := q_t) (q_aB := q_tB) (a_c := t_c) (a_f := t_f) (x1 := (((1 : Int32) ||| ((x5 - (4 : Int32)) <<< ((2 : Int32) &&& 31))) ||| ((x2 >>> ((8 : Int32) &&& 31)) <<< ((5 : Int32) &&& 31)))) (a_c' := a_c_10) (a_f' := a_f_11) hm12 _) (cwV 1 hts (tpG_V wd_80 wd_5 wd_6 wd_3 wd_2) rfl rfl rfl ⟨rfl, yd_Row_put⟩ ⟨Nat.le_of_ble_eq_true rfl, Nat.le_of_ble_eq_true rfl⟩) ⟨tp_blind, va_recv hw.1 hw.2.1 (ci := 3) (q0 := 3) rfl rfl, tp_pre hw [3, 4] rfl rfl⟩ rfl rfl hl.1 rfl (lv_room (Nat.le_of_ble_eq_true rfl)) d_BlockWriter_putMatch_90 ⟨Nat.le_of_ble_eq_true rfl, Nat.le_of_ble_eq_true rfl⟩) hw [3, 4] [0, 1, 2, 5, 6, 7] [0, 1, 2, 6, 7, 3, 4, 5] rfl rfl rfl (by decide) rfl rfl (fun H locs hw => ?_)
        refine lv_aload_n hx hb d_BlockWriter_putMatch_93 rfl (lv_at hl 0 rfl) ?_
        refine tp_get (v := .ref q_t) (C := R_BlockWriter) (T := T_BlockWriter) hx hb hts fw_BlockWriter hown hw 0 rfl rfl 1 (by decide +kernel) (hts _ wd_79) rfl d_BlockWriter_putMatch_94 ?_
        refine lv_iload_n hx hb d_BlockWriter_putMatch_97 rfl (lv_at hl 1 rfl) ?_
        obtain ⟨a_c_13, a_f_14, hm15, hm⟩ := tp_b2_e hm
        refine tp_callv (wr := [(q_bw, .inr (1, [.ref q_i, .ref q_t, .ref q_mt])), (q_i, .inr (3, [.ref q_iB, .int i_c])), (q_iB, .inl (cB, 10000, .inl i_f)), (q_mt, .inr (2, [.ref q_i, .ref q_mtb, .ref q_mtl, .int mt_from, .int mt_to, .int mt_len, .int mt_dist])), (q_mtb, .inl (cI, 10000, .inl mt_bef)), (q_mtl, .inl (cI, 2048, .inl mt_lat))]) (WS' := [(q_bw, .inr (1, [.ref q_i, .ref q_t, .ref q_mt])), (q_i, .inr (3, [.ref q_iB, .int i_c])), (q_iB, .inl (cB, 10000, .inl i_f)), (q_t, .inr (3, [.ref q_tB, .int a_c_13])), (q_tB, .inl (cB, 10000, .inl a_f_14)), (q_mt, .inr (2, [.ref q_i, .ref q_mtb, .ref q_mtl, .int mt_from, .int mt_to, .int mt_len, .int mt_dist])), (q_mtb, .inl (cI, 10000, .inl mt_bef)), (q_mtl, .inl (cI, 2048, .inl mt_lat))]) (va_runV (As := [.int x2]) (rest := []) hF (ct_Row_put (l := l) (D := D) (cB := cB) (cI := cI) (tM := tM) (q_a := q_t) (q_aB := q_tB) (a_c := a_c_10) (a_f := a_f_11) (x1 := x2) (a_c' := a_c_13) (a_f' := a_f_14) hm15 _) (cwV 1 hts (tpG_V wd_80 wd_5 wd_6 wd_3 wd_2) rfl rfl rfl ⟨rfl, yd_Row_put⟩ ⟨Nat.le_of_ble_eq_true rfl, Nat.le_of_ble_eq_true rfl⟩) ⟨tp_blind, va_recv hw.1 hw.2.1 (ci := 3) (q0 := 3) rfl rfl, tp_pre hw [3, 4] rfl rfl⟩ rfl rfl hl.1 rfl (lv_room (Nat.le_of_ble_eq_true rfl)) d_BlockWriter_putMatch_98 ⟨Nat.le_of_ble_eq_true rfl, Nat.le_of_ble_eq_true rfl⟩) hw [3, 4] [0, 1, 2, 5, 6, 7] [0, 1, 2, 6, 7, 3, 4, 5] rfl rfl rfl (by decide) rfl rfl (fun H locs hw => ?_)
        refine lv_goto (tgt := 128) hx hb d_BlockWriter_putMatch_101 (by decide +kernel) ?_
        refine lv_iload hx hb d_BlockWriter_putMatch_128 (lv_at hl 3 rfl) ?_
        refine lv_iload hx hb d_BlockWriter_putMatch_130 (lv_at hl 4 rfl) ?_
        refine lv_isub hx hb d_BlockWriter_putMatch_132 ?_
        refine lv_istore (lv' := [(4, .int (x4 - x5)), (0, .ref q_bw), (2, .int x2), (3, .int x3), (5, .int x5)]) hx hb d_BlockWriter_putMatch_133 hl (by decide +kernel) rfl (fun ls hl => ?_)
        refine lv_goto (tgt := 16) hx hb d_BlockWriter_putMatch_135 (by decide +kernel) ?_
        exact ih16 _ _ _ _ _ _ _ _ hm hw (lv_sub hl [1, 2, 3, 0] rfl)
set_option maxHeartbeats 4000000 in
set_option maxRecDepth 100000 in
theorem w_BlockWriter_putMatch_16 {q_bw q_i q_iB q_t q_tB q_mt q_mtb q_mtl : Nat} {i_c : Int32} {i_f : Nat → Int32} {mt_from : Int32} {mt_to : Int32} {mt_len : Int32} {mt_dist : Int32} {mt_bef : Nat → Int32} {mt_lat : Nat → Int32} {N : Nat} {t_c' : Int32} {t_f' : Nat → Int32} (hF2 : tp_F p m c c_BlockWriter_putMatch 6 s args tpG R_BlockWriter meth none) : ∀ (n : Nat), ∀ (x2 : Int32) (x3 : Int32) (x4 : Int32) (t_c : Int32) (t_f : Nat → Int32) (H : Heap) (locs : List Loc) (ls : Array Slot), tp_it5 (m_BlockWriter_putMatch_16 N ) n x2 x3 x4 t_c t_f = some (t_c', t_f') → tp_Wd D (tp_ty cB cI) tM A s H locs [(q_bw, .inr (1, [.ref q_i, .ref q_t, .ref q_mt])), (q_i, .inr (3, [.ref q_iB, .int i_c])), (q_iB, .inl (cB, 10000, .inl i_f)), (q_t, .inr (3, [.ref q_tB, .int t_c])), (q_tB, .inl (cB, 10000, .inl t_f)), (q_mt, .inr (2, [.ref q_i, .ref q_mtb, .ref q_mtl, .int mt_from, .int mt_to, .int mt_len, .int mt_dist])), (q_mtb, .inl (cI, 10000, .inl mt_bef)), (q_mtl, .inl (cI, 2048, .inl mt_lat))] → lv_has ls 6 [(0, .ref q_bw), (2, .int x2), (3, .int x3), (4, .int x4)] → W p l e rm_BlockWriter_putMatch s m args below meth c H locs 0 0 (MQ below (tp_Qv (S := Unit) D A (fun _ => [(q_bw, .inr (1, [.ref q_i, .ref q_t, .ref q_mt])), (q_i, .inr (3, [.ref q_iB, .int i_c])), (q_iB, .inl (cB, 10000, .inl i_f)), (q_t, .inr (3, [.ref q_tB, .int t_c'])), (q_tB, .inl (cB, 10000, .inl t_f')), (q_mt, .inr (2, [.ref q_i, .ref q_mtb, .ref q_mtl, .int mt_from, .int mt_to, .int mt_len, .int mt_dist])), (q_mtb, .inl (cI, 10000, .inl mt_bef)), (q_mtl, .inl (cI, 2048, .inl mt_lat))])) args s 0 0 A) (F0 m 16 ls []) := by
  obtain ⟨hF, hr, hlocks⟩ := id hF2
  obtain ⟨hx, hb, hml, hown, hts⟩ := id hF
  intro n
  induction n with
  | zero => intro x2 x3 x4 t_c t_f H locs ls hm; exact absurd hm (by simp [tp_it5])
  | succ n ih16 =>
    intro x2 x3 x4 t_c t_f H locs ls hm hw hl
    replace hm : m_BlockWriter_putMatch_16 N  (tp_it5 (m_BlockWriter_putMatch_16 N ) n) x2 x3 x4 t_c t_f = some (t_c', t_f') := hm
    unfold m_BlockWriter_putMatch_16 at hm
    refine lv_iload hx hb d_BlockWriter_putMatch_16 (lv_at hl 3 rfl) ?_
    refine lv_if_le (tgt := 138) hx hb d_BlockWriter_putMatch_18 (by decide +kernel) (fun hc2 => ?_) (fun hc2 => ?_)
    · replace hm := tp_it hc2 hm
      obtain ⟨rfl, rfl⟩ := tp_inj2 hm
      exact tp_vret () hx hb hr hlocks hw d_BlockWriter_putMatch_138
    · replace hm := tp_if hc2 hm
      refine lv_iload hx hb d_BlockWriter_putMatch_21 (lv_at hl 3 rfl) ?_
      refine lv_bipush (v := (64 : Int32)) hx hb d_BlockWriter_putMatch_23 (by decide +kernel) ?_
      refine va_mmin hx hb (hml.trans hl.1.symm) hown (hts _ wd_90) (hts _ wd_53) (hts _ wd_49) (hts _ wd_54) (Nat.le_of_ble_eq_true rfl) (Nat.le_of_ble_eq_true rfl) (Nat.le_of_ble_eq_true rfl) (Nat.le_of_ble_eq_true rfl) d_BlockWriter_putMatch_25 ?_
      obtain ⟨y3, ey3, hm⟩ := tp_b0_e hm
      refine tp_topi ey3 ?_
      refine lv_istore (lv' := [(5, .int y3), (0, .ref q_bw), (2, .int x2), (3, .int x3), (4, .int x4)]) hx hb d_BlockWriter_putMatch_28 hl (by decide +kernel) rfl (fun ls hl => ?_)
      refine lv_iload_n hx hb d_BlockWriter_putMatch_30 rfl (lv_at hl 3 rfl) ?_
      refine lv_if_eq (tgt := 54) hx hb d_BlockWriter_putMatch_31 (by decide +kernel) (fun hc4 => ?_) (fun hc4 => ?_)
      · replace hm := tp_it hc4 hm
        exact w_BlockWriter_putMatch_54 hF2 ih16 _ _ _ _ _ _ _ _ _ hm hw (lv_sub hl [1, 2, 3, 4, 0] rfl)
      · replace hm := tp_if hc4 hm
        refine lv_iload hx hb d_BlockWriter_putMatch_34 (lv_at hl 4 rfl) ?_
        refine lv_bipush (v := (64 : Int32)) hx hb d_BlockWriter_putMatch_36 (by decide +kernel) ?_
        refine lv_icmp_le (tgt := 54) hx hb d_BlockWriter_putMatch_38 (by decide +kernel) (fun hc5 => ?_) (fun hc5 => ?_)
        · replace hm := tp_it hc5 hm
          exact w_BlockWriter_putMatch_54 hF2 ih16 _ _ _ _ _ _ _ _ _ hm hw (lv_sub hl [1, 2, 3, 4, 0] rfl)
        · replace hm := tp_if hc5 hm
          refine lv_iload hx hb d_BlockWriter_putMatch_41 (lv_at hl 4 rfl) ?_
          refine lv_bipush (v := (68 : Int32)) hx hb d_BlockWriter_putMatch_43 (by decide +kernel) ?_
          refine lv_icmp_ge (tgt := 54) hx hb d_BlockWriter_putMatch_45 (by decide +kernel) (fun hc6 => ?_) (fun hc6 => ?_)
          · replace hm := tp_it hc6 hm
            exact w_BlockWriter_putMatch_54 hF2 ih16 _ _ _ _ _ _ _ _ _ hm hw (lv_sub hl [1, 2, 3, 4, 0] rfl)
          · replace hm := tp_if hc6 hm
            refine lv_iload hx hb d_BlockWriter_putMatch_48 (lv_at hl 4 rfl) ?_
            refine lv_iconst (v := (4 : Int32)) hx hb d_BlockWriter_putMatch_50 (by decide +kernel) ?_
            refine lv_isub hx hb d_BlockWriter_putMatch_51 ?_
            refine lv_istore (lv' := [(5, .int (x4 - (4 : Int32))), (0, .ref q_bw), (2, .int x2), (3, .int x3), (4, .int x4)]) hx hb d_BlockWriter_putMatch_52 hl (by decide +kernel) rfl (fun ls hl => ?_)
            exact w_BlockWriter_putMatch_54 hF2 ih16 _ _ _ _ _ _ _ _ _ hm hw (lv_sub hl [1, 2, 3, 4, 0] rfl)
set_option maxHeartbeats 4000000 in
set_option maxRecDepth 100000 in
theorem ct_BlockWriter_putMatch {q_bw q_i q_iB q_t q_tB q_mt q_mtb q_mtl : Nat} {i_c : Int32} {i_f : Nat → Int32} {t_c : Int32} {t_f : Nat → Int32} {mt_from : Int32} {mt_to : Int32} {mt_len : Int32} {mt_dist : Int32} {mt_bef : Nat → Int32} {mt_lat : Nat → Int32} {N : Nat} {x1 : Int32} {x2 : Int32} {t_c' : Int32} {t_f' : Nat → Int32} (hm : m_BlockWriter_putMatch N x1 x2 t_c t_f = some (t_c', t_f')) (sz : Nat) : tp_Cv l y_BlockWriter_putMatch ws_BlockWriter_putMatch rm_BlockWriter_putMatch D (tp_ty cB cI) tM [.ref q_bw, .int x1, .int x2] [(q_bw, .inr (1, [.ref q_i, .ref q_t, .ref q_mt])), (q_i, .inr (3, [.ref q_iB, .int i_c])), (q_iB, .inl (cB, 10000, .inl i_f)), (q_t, .inr (3, [.ref q_tB, .int t_c])), (q_tB, .inl (cB, 10000, .inl t_f)), (q_mt, .inr (2, [.ref q_i, .ref q_mtb, .ref q_mtl, .int mt_from, .int mt_to, .int mt_len, .int mt_dist])), (q_mtb, .inl (cI, 10000, .inl mt_bef)), (q_mtl, .inl (cI, 2048, .inl mt_lat))] sz [(q_bw, .inr (1, [.ref q_i, .ref q_t, .ref q_mt])), (q_i, .inr (3, [.ref q_iB, .int i_c])), (q_iB, .inl (cB, 10000, .inl i_f)), (q_t, .inr (3, [.ref q_tB, .int t_c'])), (q_tB, .inl (cB, 10000, .inl t_f')), (q_mt, .inr (2, [.ref q_i, .ref q_mtb, .ref q_mtl, .int mt_from, .int mt_to, .int mt_len, .int mt_dist])), (q_mtb, .inl (cI, 10000, .inl mt_bef)), (q_mtl, .inl (cI, 2048, .inl mt_lat))] := by
  refine Met.ofW (cc := c_BlockWriter_putMatch) (maxL := 6) (ret := none) (by decide) rfl ?_
  intro p e s m args below meth c s₁ B hml hv
  obtain ⟨rfl, hv⟩ := hv
  have hw := tp_entry hv
  generalize va_A [(q_bw, .inr (1, [.ref q_i, .ref q_t, .ref q_mt])), (q_i, .inr (3, [.ref q_iB, .int i_c])), (q_iB, .inl (cB, 10000, .inl i_f)), (q_t, .inr (3, [.ref q_tB, .int t_c])), (q_tB, .inl (cB, 10000, .inl t_f)), (q_mt, .inr (2, [.ref q_i, .ref q_mtb, .ref q_mtl, .int mt_from, .int mt_to, .int mt_len, .int mt_dist])), (q_mtb, .inl (cI, 10000, .inl mt_bef)), (q_mtl, .inl (cI, 2048, .inl mt_lat))] sz = A at hw ⊢
  have hx := B.exec
  have hb := B.bytes
  have hr := B.returns
  have hts0 := atoms_spec (ws := ws_BlockWriter_putMatch) B.pre
  have hts := fun w h => hts0 w (List.mem_cons_of_mem _ h)
  have hown : s.vm.findClass R_BlockWriter = some m.cls := findClass_of_methodNamed B.named
  have hlocks := B.notSynchronized
  have hF : CallFix p m c c_BlockWriter_putMatch 6 s _ tpG R_BlockWriter := ⟨hx, hb, hml, hown, hts⟩
  have hF2 : tp_F p m c c_BlockWriter_putMatch 6 s _ tpG R_BlockWriter meth none := ⟨hF, hr, hlocks⟩
  have hl := lv_entry ([.ref q_bw, .int x1, .int x2]) (n := 6) (Nat.le_of_ble_eq_true rfl)
  rw [lg_entry_eq]
  generalize (lg_sl ([.ref q_bw, .int x1, .int x2]) ++ List.replicate (6 - (lg_sl ([.ref q_bw, .int x1, .int x2])).length) Slot.unset).toArray = ls at hl ⊢
  replace hl : lv_has ls 6 [(0, .ref q_bw), (1, .int x1), (2, .int x2)] := hl
  unfold m_BlockWriter_putMatch at hm
  refine lv_iload_n hx hb d_BlockWriter_putMatch_0 rfl (lv_at hl 2 rfl) ?_
  refine lv_sipush (v := (2048 : Int32)) hx hb d_BlockWriter_putMatch_1 (by decide +kernel) ?_
  refine lv_icmp_ge (tgt := 11) hx hb d_BlockWriter_putMatch_4 (by decide +kernel) (fun hc1 => ?_) (fun hc1 => ?_)
  · replace hm := tp_it hc1 hm
    refine lv_iconst (v := (0 : Int32)) hx hb d_BlockWriter_putMatch_11 (by decide +kernel) ?_
    refine lv_istore_n (lv' := [(3, .int (0 : Int32)), (0, .ref q_bw), (1, .int x1), (2, .int x2)]) hx hb d_BlockWriter_putMatch_12 rfl hl (by decide +kernel) rfl (fun ls hl => ?_)
    refine lv_iload_n hx hb d_BlockWriter_putMatch_13 rfl (lv_at hl 2 rfl) ?_
    refine lv_istore (lv' := [(4, .int x1), (3, .int (0 : Int32)), (0, .ref q_bw), (1, .int x1), (2, .int x2)]) hx hb d_BlockWriter_putMatch_14 hl (by decide +kernel) rfl (fun ls hl => ?_)
    exact w_BlockWriter_putMatch_16 hF2  N _ _ _ _ _ _ _ _ hm hw (lv_sub hl [2, 4, 1, 0] rfl)
  · replace hm := tp_if hc1 hm
    refine lv_iconst (v := (1 : Int32)) hx hb d_BlockWriter_putMatch_7 (by decide +kernel) ?_
    refine lv_goto (tgt := 12) hx hb d_BlockWriter_putMatch_8 (by decide +kernel) ?_
    refine lv_istore_n (lv' := [(3, .int (1 : Int32)), (0, .ref q_bw), (1, .int x1), (2, .int x2)]) hx hb d_BlockWriter_putMatch_12 rfl hl (by decide +kernel) rfl (fun ls hl => ?_)
    refine lv_iload_n hx hb d_BlockWriter_putMatch_13 rfl (lv_at hl 2 rfl) ?_
    refine lv_istore (lv' := [(4, .int x1), (3, .int (1 : Int32)), (0, .ref q_bw), (1, .int x1), (2, .int x2)]) hx hb d_BlockWriter_putMatch_14 hl (by decide +kernel) rfl (fun ls hl => ?_)
    exact w_BlockWriter_putMatch_16 hF2  N _ _ _ _ _ _ _ _ hm hw (lv_sub hl [2, 4, 1, 0] rfl)
end
abbrev rm_BlockWriter_putBlock : Room := { frames := 4, cells := 0, slots := 0, locals := 93 }
abbrev ws_BlockWriter_putBlock : List Cond := .code y_BlockWriter_putBlock c_BlockWriter_putBlock 6 none :: tpG
noncomputable def m_BlockWriter_putBlock_22 (N : Nat) (i_c : Int32) (i_f : Nat → Int32) (mt_bef : Nat → Int32) (rec22 : Int32 → Int32 → Int32 → Int32 → Int32 → (Nat → Int32) → Int32 → Int32 → Int32 → Int32 → Option (Int32 × (Nat → Int32) × Int32 × Int32 × Int32 × Int32)) (x2 : Int32) (x3 : Int32) (x4 : Int32) (x5 : Int32) (t_c : Int32) (t_f : Nat → Int32) (mt_from : Int32) (mt_to : Int32) (mt_len : Int32) (mt_dist : Int32) : Option (Int32 × (Nat → Int32) × Int32 × Int32 × Int32 × Int32) :=
  if x2 ≤ x5 then
    tp_b2 (m_BlockWriter_putLiterals N x4 x2 i_c i_f t_c t_f) fun t_c_8 t_f_9 =>
    some (t_c_8, t_f_9, mt_from, mt_to, mt_len, mt_dist)
  else
    tp_b2 (m_Matches_findAt N x5 x3 mt_from mt_to mt_len mt_dist i_c i_f mt_bef) fun mt_len_11 mt_dist_12 =>
    if 0 < mt_len_11 then
      tp_b2 (m_BlockWriter_putLiterals N x4 x5 i_c i_f t_c t_f) fun t_c_15 t_f_16 =>
      tp_b2 (m_BlockWriter_putMatch N mt_len_11 mt_dist_12 t_c_15 t_f_16) fun t_c_18 t_f_19 =>
      rec22 x2 x3 (x5 + mt_len_11) (x5 + mt_len_11) t_c_18 t_f_19 mt_from mt_to mt_len_11 mt_dist_12
    else
      rec22 x2 x3 x4 (x5 + (1 : Int32)) t_c t_f mt_from mt_to mt_len_11 mt_dist_12
noncomputable def m_BlockWriter_putBlock (N : Nat) (x1 : Int32) (x2 : Int32) (x3 : Int32) (i_c : Int32) (i_f : Nat → Int32) (t_c : Int32) (t_f : Nat → Int32) (mt_from : Int32) (mt_to : Int32) (mt_len : Int32) (mt_dist : Int32) (mt_bef : Nat → Int32) : Option (Int32 × (Nat → Int32) × Int32 × Int32 × Int32 × Int32) :=
  tp_b2 (m_Matches_keepWithin x1 x2 mt_from mt_to i_c) fun mt_from_1 mt_to_2 =>
  tp_b2 (m_BlockWriter_putLength N (x2 - x1) t_c t_f) fun t_c_4 t_f_5 =>
  tp_it10 (m_BlockWriter_putBlock_22 N i_c i_f mt_bef ) N x2 x3 x1 x1 t_c_4 t_f_5 mt_from_1 mt_to_2 mt_len mt_dist
section
variable {p : Program} {l : Launch} {e : Env} {s : State} {m : MethodId} {args : Array Value} {below : List Frame} {meth : Method} {c : Code} {A : Nat → Prop} {D : va_G} {cB cI : ClassId} {tM : Nat}
set_option maxHeartbeats 4000000 in
set_option maxRecDepth 100000 in
theorem w_BlockWriter_putBlock_22 {q_bw q_i q_iB q_t q_tB q_mt q_mtb q_mtl : Nat} {i_c : Int32} {i_f : Nat → Int32} {mt_bef : Nat → Int32} {mt_lat : Nat → Int32} {N : Nat} {t_c' : Int32} {t_f' : Nat → Int32} {mt_from' : Int32} {mt_to' : Int32} {mt_len' : Int32} {mt_dist' : Int32} (hF2 : tp_F p m c c_BlockWriter_putBlock 6 s args tpG R_BlockWriter meth none) : ∀ (n : Nat), ∀ (x2 : Int32) (x3 : Int32) (x4 : Int32) (x5 : Int32) (t_c : Int32) (t_f : Nat → Int32) (mt_from : Int32) (mt_to : Int32) (mt_len : Int32) (mt_dist : Int32) (H : Heap) (locs : List Loc) (ls : Array Slot), tp_it10 (m_BlockWriter_putBlock_22 N i_c i_f mt_bef ) n x2 x3 x4 x5 t_c t_f mt_from mt_to mt_len mt_dist = some (t_c', t_f', mt_from', mt_to', mt_len', mt_dist') → tp_Wd D (tp_ty cB cI) tM A s H locs [(q_bw, .inr (1, [.ref q_i, .ref q_t, .ref q_mt])), (q_i, .inr (3, [.ref q_iB, .int i_c])), (q_iB, .inl (cB, 10000, .inl i_f)), (q_t, .inr (3, [.ref q_tB, .int t_c])), (q_tB, .inl (cB, 10000, .inl t_f)), (q_mt, .inr (2, [.ref q_i, .ref q_mtb, .ref q_mtl, .int mt_from, .int mt_to, .int mt_len, .int mt_dist])), (q_mtb, .inl (cI, 10000, .inl mt_bef)), (q_mtl, .inl (cI, 2048, .inl mt_lat))] → lv_has ls 6 [(0, .ref q_bw), (2, .int x2), (3, .int x3), (4, .int x4), (5, .int x5)] → W p l e rm_BlockWriter_putBlock s m args below meth c H locs 0 0 (MQ below (tp_Qv (S := Unit) D A (fun _ => [(q_bw, .inr (1, [.ref q_i, .ref q_t, .ref q_mt])), (q_i, .inr (3, [.ref q_iB, .int i_c])), (q_iB, .inl (cB, 10000, .inl i_f)), (q_t, .inr (3, [.ref q_tB, .int t_c'])), (q_tB, .inl (cB, 10000, .inl t_f')), (q_mt, .inr (2, [.ref q_i, .ref q_mtb, .ref q_mtl, .int mt_from', .int mt_to', .int mt_len', .int mt_dist'])), (q_mtb, .inl (cI, 10000, .inl mt_bef)), (q_mtl, .inl (cI, 2048, .inl mt_lat))])) args s 0 0 A) (F0 m 22 ls []) := by
  obtain ⟨hF, hr, hlocks⟩ := id hF2
  obtain ⟨hx, hb, hml, hown, hts⟩ := id hF
  intro n
  induction n with
  | zero => intro x2 x3 x4 x5 t_c t_f mt_from mt_to mt_len mt_dist H locs ls hm; exact absurd hm (by simp [tp_it10])
  | succ n ih22 =>
    intro x2 x3 x4 x5 t_c t_f mt_from mt_to mt_len mt_dist H locs ls hm hw hl
    replace hm : m_BlockWriter_putBlock_22 N i_c i_f mt_bef  (tp_it10 (m_BlockWriter_putBlock_22 N i_c i_f mt_bef ) n) x2 x3 x4 x5 t_c t_f mt_from mt_to mt_len mt_dist = some (t_c', t_f', mt_from', mt_to', mt_len', mt_dist') := hm
    unfold m_BlockWriter_putBlock_22 at hm
    refine lv_iload hx hb d_BlockWriter_putBlock_22 (lv_at hl 4 rfl) ?_
    refine lv_iload_n hx hb d_BlockWriter_putBlock_24 rfl (lv_at hl 1 rfl) ?_
    refine lv_icmp_ge (tgt := 99) hx hb d_BlockWriter_putBlock_25 (by decide +kernel) (fun hc7 => ?_) (fun hc7 => ?_)
    · replace hm := tp_it hc7 hm
      refine lv_aload_n hx hb d_BlockWriter_putBlock_99 rfl (lv_at hl 0 rfl) ?_
      refine lv_iload hx hb d_BlockWriter_putBlock_100 (lv_at hl 3 rfl) ?_
      refine lv_iload_n hx hb d_BlockWriter_putBlock_102 rfl (lv_at hl 1 rfl) ?_
      obtain ⟨t_c_8, t_f_9, hm10, hm⟩ := tp_b2_e hm
      refine tp_callv (wr := []) (WS' := [(q_bw, .inr (1, [.ref q_i, .ref q_t, .ref q_mt])), (q_i, .inr (3, [.ref q_iB, .int i_c])), (q_iB, .inl (cB, 10000, .inl i_f)), (q_t, .inr (3, [.ref q_tB, .int t_c_8])), (q_tB, .inl (cB, 10000, .inl t_f_9)), (q_mt, .inr (2, [.ref q_i, .ref q_mtb, .ref q_mtl, .int mt_from, .int mt_to, .int mt_len, .int mt_dist])), (q_mtb, .inl (cI, 10000, .inl mt_bef)), (q_mtl, .inl (cI, 2048, .inl mt_lat))]) (va_runV (As := [.int x4, .int x2]) (rest := []) hF (ct_BlockWriter_putLiterals (l := l) (D := D) (cB := cB) (cI := cI) (tM := tM) (q_bw := q_bw) (q_i := q_i) (q_iB := q_iB) (q_t := q_t) (q_tB := q_tB) (q_mt := q_mt) (q_mtb := q_mtb) (q_mtl := q_mtl) (i_c := i_c) (i_f := i_f) (t_c := t_c) (t_f := t_f) (mt_from := mt_from) (mt_to := mt_to) (mt_len := mt_len) (mt_dist := mt_dist) (mt_bef := mt_bef) (mt_lat := mt_lat) (x1 := x4) (x2 := x2) (N := N) (t_c' := t_c_8) (t_f' := t_f_9) hm10 _) (cwV 2 hts (tpG_V wd_102 wd_103 wd_104 wd_97 wd_101) rfl rfl rfl ⟨rfl, yd_BlockWriter_putLiterals⟩ ⟨Nat.le_of_ble_eq_true rfl, Nat.le_of_ble_eq_true rfl⟩) ⟨tp_blind, va_recv hw.1 hw.2.1 (ci := 1) (q0 := 0) rfl rfl, tp_pre hw [0, 1, 2, 3, 4, 5, 6, 7] rfl rfl⟩ rfl rfl hl.1 rfl (lv_room (Nat.le_of_ble_eq_true rfl)) d_BlockWriter_putBlock_103 ⟨Nat.le_of_ble_eq_true rfl, Nat.le_of_ble_eq_true rfl⟩) hw [0, 1, 2, 3, 4, 5, 6, 7] [] [0, 1, 2, 3, 4, 5, 6, 7] rfl rfl rfl (by decide) rfl rfl (fun H locs hw => ?_)
      obtain ⟨rfl, rfl, rfl, rfl, rfl, rfl⟩ := tp_inj6 hm
      exact tp_vret () hx hb hr hlocks hw d_BlockWriter_putBlock_106
    · replace hm := tp_if hc7 hm
      refine lv_aload_n hx hb d_BlockWriter_putBlock_28 rfl (lv_at hl 0 rfl) ?_
      refine tp_get (v := .ref q_mt) (C := R_BlockWriter) (T := T_BlockWriter) hx hb hts fw_BlockWriter hown hw 0 rfl rfl 2 (by decide +kernel) (hts _ wd_91) rfl d_BlockWriter_putBlock_29 ?_
      refine lv_iload hx hb d_BlockWriter_putBlock_32 (lv_at hl 4 rfl) ?_
      refine lv_iload_n hx hb d_BlockWriter_putBlock_34 rfl (lv_at hl 2 rfl) ?_
      obtain ⟨mt_len_11, mt_dist_12, hm13, hm⟩ := tp_b2_e hm
      refine tp_callv (wr := [(q_bw, .inr (1, [.ref q_i, .ref q_t, .ref q_mt])), (q_t, .inr (3, [.ref q_tB, .int t_c])), (q_tB, .inl (cB, 10000, .inl t_f))]) (WS' := [(q_bw, .inr (1, [.ref q_i, .ref q_t, .ref q_mt])), (q_i, .inr (3, [.ref q_iB, .int i_c])), (q_iB, .inl (cB, 10000, .inl i_f)), (q_t, .inr (3, [.ref q_tB, .int t_c])), (q_tB, .inl (cB, 10000, .inl t_f)), (q_mt, .inr (2, [.ref q_i, .ref q_mtb, .ref q_mtl, .int mt_from, .int mt_to, .int mt_len_11, .int mt_dist_12])), (q_mtb, .inl (cI, 10000, .inl mt_bef)), (q_mtl, .inl (cI, 2048, .inl mt_lat))]) (va_runV (As := [.int x5, .int x3]) (rest := []) hF (ct_Matches_findAt (l := l) (D := D) (cB := cB) (cI := cI) (tM := tM) (q_mt := q_mt) (q_i := q_i) (q_iB := q_iB) (q_mtb := q_mtb) (q_mtl := q_mtl) (mt_from := mt_from) (mt_to := mt_to) (mt_len := mt_len) (mt_dist := mt_dist) (i_c := i_c) (i_f := i_f) (mt_bef := mt_bef) (mt_lat := mt_lat) (x1 := x5) (x2 := x3) (N := N) (mt_len' := mt_len_11) (mt_dist' := mt_dist_12) hm13 _) (cwV 2 hts (tpG_V wd_106 wd_107 wd_108 wd_42 wd_105) rfl rfl rfl ⟨rfl, yd_Matches_findAt⟩ ⟨Nat.le_of_ble_eq_true rfl, Nat.le_of_ble_eq_true rfl⟩) ⟨tp_blind, va_recv hw.1 hw.2.1 (ci := 2) (q0 := 5) rfl rfl, tp_pre hw [5, 1, 2, 6, 7] rfl rfl⟩ rfl rfl hl.1 rfl (lv_room (Nat.le_of_ble_eq_true rfl)) d_BlockWriter_putBlock_35 ⟨Nat.le_of_ble_eq_true rfl, Nat.le_of_ble_eq_true rfl⟩) hw [5, 1, 2, 6, 7] [0, 3, 4] [0, 4, 5, 1, 2, 3, 6, 7] rfl rfl rfl (by decide) rfl rfl (fun H locs hw => ?_)
      refine lv_aload_n hx hb d_BlockWriter_putBlock_38 rfl (lv_at hl 0 rfl) ?_
      refine tp_get (v := .ref q_mt) (C := R_BlockWriter) (T := T_BlockWriter) hx hb hts fw_BlockWriter hown hw 0 rfl rfl 2 (by decide +kernel) (hts _ wd_91) rfl d_BlockWriter_putBlock_39 ?_
      refine tp_getN (v := .int mt_len_11) (C := R_Matches) (T := T_Matches) hx hb hts fw_Matches hown hw 5 rfl rfl 5 (by decide +kernel) nw_2 rfl d_BlockWriter_putBlock_42 ?_
      refine lv_if_gt (tgt := 54) hx hb d_BlockWriter_putBlock_45 (by decide +kernel) (fun hc14 => ?_) (fun hc14 => ?_)
      · replace hm := tp_it hc14 hm
        refine lv_aload_n hx hb d_BlockWriter_putBlock_54 rfl (lv_at hl 0 rfl) ?_
        refine lv_iload hx hb d_BlockWriter_putBlock_55 (lv_at hl 3 rfl) ?_
        refine lv_iload hx hb d_BlockWriter_putBlock_57 (lv_at hl 4 rfl) ?_
        obtain ⟨t_c_15, t_f_16, hm17, hm⟩ := tp_b2_e hm
        refine tp_callv (wr := []) (WS' := [(q_bw, .inr (1, [.ref q_i, .ref q_t, .ref q_mt])), (q_i, .inr (3, [.ref q_iB, .int i_c])), (q_iB, .inl (cB, 10000, .inl i_f)), (q_t, .inr (3, [.ref q_tB, .int t_c_15])), (q_tB, .inl (cB, 10000, .inl t_f_16)), (q_mt, .inr (2, [.ref q_i, .ref q_mtb, .ref q_mtl, .int mt_from, .int mt_to, .int mt_len_11, .int mt_dist_12])), (q_mtb, .inl (cI, 10000, .inl mt_bef)), (q_mtl, .inl (cI, 2048, .inl mt_lat))]) (va_runV (As := [.int x4, .int x5]) (rest := []) hF (ct_BlockWriter_putLiterals (l := l) (D := D) (cB := cB) (cI := cI) (tM := tM) (q_bw := q_bw) (q_i := q_i) (q_iB := q_iB) (q_t := q_t) (q_tB := q_tB) (q_mt := q_mt) (q_mtb := q_mtb) (q_mtl := q_mtl) (i_c := i_c) (i_f := i_f) (t_c := t_c) (t_f := t_f) (mt_from := mt_from) (mt_to := mt_to) (mt_len := mt_len_11) (mt_dist := mt_dist_12) (mt_bef := mt_bef) (mt_lat := mt_lat) (x1 := x4) (x2 := x5) (N := N) (t_c' := t_c_15) (t_f' := t_f_16) hm17 _) (cwV 2 hts (tpG_V wd_102 wd_103 wd_104 wd_97 wd_101) rfl rfl rfl ⟨rfl, yd_BlockWriter_putLiterals⟩ ⟨Nat.le_of_ble_eq_true rfl, Nat.le_of_ble_eq_true rfl⟩) ⟨tp_blind, va_recv hw.1 hw.2.1 (ci := 1) (q0 := 0) rfl rfl, tp_pre hw [0, 1, 2, 3, 4, 5, 6, 7] rfl rfl⟩ rfl rfl hl.1 rfl (lv_room (Nat.le_of_ble_eq_true rfl)) d_BlockWriter_putBlock_59 ⟨Nat.le_of_ble_eq_true rfl, Nat.le_of_ble_eq_true rfl⟩) hw [0, 1, 2, 3, 4, 5, 6, 7] [] [0, 1, 2, 3, 4, 5, 6, 7] rfl rfl rfl (by decide) rfl rfl (fun H locs hw => ?_)
        refine lv_aload_n hx hb d_BlockWriter_putBlock_62 rfl (lv_at hl 0 rfl) ?_
        refine lv_aload_n hx hb d_BlockWriter_putBlock_63 rfl (lv_at hl 0 rfl) ?_
        refine tp_get (v := .ref q_mt) (C := R_BlockWriter) (T := T_BlockWriter) hx hb hts fw_BlockWriter hown hw 0 rfl rfl 2 (by decide +kernel) (hts _ wd_91) rfl d_BlockWriter_putBlock_64 ?_
        refine tp_getN (v := .int mt_len_11) (C := R_Matches) (T := T_Matches) hx hb hts fw_Matches hown hw 5 rfl rfl 5 (by decide +kernel) nw_2 rfl d_BlockWriter_putBlock_67 ?_
        refine lv_aload_n hx hb d_BlockWriter_putBlock_70 rfl (lv_at hl 0 rfl) ?_
        refine tp_get (v := .ref q_mt) (C := R_BlockWriter) (T := T_BlockWriter) hx hb hts fw_BlockWriter hown hw 0 rfl rfl 2 (by decide +kernel) (hts _ wd_91) rfl d_BlockWriter_putBlock_71 ?_
        refine tp_getN (v := .int mt_dist_12) (C := R_Matches) (T := T_Matches) hx hb hts fw_Matches hown hw 5 rfl rfl 6 (by decide +kernel) nw_3 rfl d_BlockWriter_putBlock_74 ?_
        obtain ⟨t_c_18, t_f_19, hm20, hm⟩ := tp_b2_e hm
        refine tp_callv (wr := []) (WS' := [(q_bw, .inr (1, [.ref q_i, .ref q_t, .ref q_mt])), (q_i, .inr (3, [.ref q_iB, .int i_c])), (q_iB, .inl (cB, 10000, .inl i_f)), (q_t, .inr (3, [.ref q_tB, .int t_c_18])), (q_tB, .inl (cB, 10000, .inl t_f_19)), (q_mt, .inr (2, [.ref q_i, .ref q_mtb, .ref q_mtl, .int mt_from, .int mt_to, .int mt_len_11, .int mt_dist_12])), (q_mtb, .inl (cI, 10000, .inl mt_bef)), (q_mtl, .inl (cI, 2048, .inl mt_lat))]) (va_runV (As := [.int mt_len_11, .int mt_dist_12]) (rest := []) hF (ct_BlockWriter_putMatch (l := l) (D := D) (cB := cB) (cI := cI) (tM := tM) (q_bw := q_bw) (q_i := q_i) (q_iB := q_iB) (q_t := q_t) (q_tB := q_tB) (q_mt := q_mt) (q_mtb := q_mtb) (q_mtl := q_mtl) (i_c := i_c) (i_f := i_f) (t_c := t_c_15) (t_f := t_f_16) (mt_from := mt_from) (mt_to := mt_to) (mt_len := mt_len_11) (mt_dist := mt_dist_12) (mt_bef := mt_bef) (mt_lat := mt_lat) (x1 := mt_len_11) (x2 := mt_dist_12) (N := N) (t_c' := t_c_18) (t_f' := t_f_19) hm20 _) (cwV 2 hts (tpG_V wd_110 wd_111 wd_112 wd_97 wd_109) rfl rfl rfl ⟨rfl, yd_BlockWriter_putMatch⟩ ⟨Nat.le_of_ble_eq_true rfl, Nat.le_of_ble_eq_true rfl⟩) ⟨tp_blind, va_recv hw.1 hw.2.1 (ci := 1) (q0 := 0) rfl rfl, tp_pre hw [0, 1, 2, 3, 4, 5, 6, 7] rfl rfl⟩ rfl rfl hl.1 rfl (lv_room (Nat.le_of_ble_eq_true rfl)) d_BlockWriter_putBlock_77 ⟨Nat.le_of_ble_eq_true rfl, Nat.le_of_ble_eq_true rfl⟩) hw [0, 1, 2, 3, 4, 5, 6, 7] [] [0, 1, 2, 3, 4, 5, 6, 7] rfl rfl rfl (by decide) rfl rfl (fun H locs hw => ?_)
        refine lv_iload hx hb d_BlockWriter_putBlock_80 (lv_at hl 4 rfl) ?_
        refine lv_aload_n hx hb d_BlockWriter_putBlock_82 rfl (lv_at hl 0 rfl) ?_
        refine tp_get (v := .ref q_mt) (C := R_BlockWriter) (T := T_BlockWriter) hx hb hts fw_BlockWriter hown hw 0 rfl rfl 2 (by decide +kernel) (hts _ wd_91) rfl d_BlockWriter_putBlock_83 ?_
        refine tp_getN (v := .int mt_len_11) (C := R_Matches) (T := T_Matches) hx hb hts fw_Matches hown hw 5 rfl rfl 5 (by decide +kernel) nw_2 rfl d_BlockWriter_putBlock_86 ?_
        refine lv_iadd hx hb d_BlockWriter_putBlock_89 ?_
        refine lv_istore (lv' := [(5, .int (x5 + mt_len_11)), (0, .ref q_bw), (2, .int x2), (3, .int x3), (4, .int x4)]) hx hb d_BlockWriter_putBlock_90 hl (by decide +kernel) rfl (fun ls hl => ?_)
        refine lv_iload hx hb d_BlockWriter_putBlock_92 (lv_at hl 0 rfl) ?_
        refine lv_istore (lv' := [(4, .int (x5 + mt_len_11)), (5, .int (x5 + mt_len_11)), (0, .ref q_bw), (2, .int x2), (3, .int x3)]) hx hb d_BlockWriter_putBlock_94 hl (by decide +kernel) rfl (fun ls hl => ?_)
        refine lv_goto (tgt := 22) hx hb d_BlockWriter_putBlock_96 (by decide +kernel) ?_
        exact ih22 _ _ _ _ _ _ _ _ _ _ _ _ _ hm hw (lv_sub hl [2, 3, 4, 0, 1] rfl)
      · replace hm := tp_if hc14 hm
        refine lv_iinc (v := (x5 + (1 : Int32))) (lv' := [(5, .int (x5 + (1 : Int32))), (0, .ref q_bw), (2, .int x2), (3, .int x3), (4, .int x4)]) hx hb d_BlockWriter_putBlock_48 hl (k := 4) rfl rfl (by decide +kernel) rfl (fun ls hl => ?_)
        refine lv_goto (tgt := 22) hx hb d_BlockWriter_putBlock_51 (by decide +kernel) ?_
        exact ih22 _ _ _ _ _ _ _ _ _ _ _ _ _ hm hw (lv_sub hl [1, 2, 3, 4, 0] rfl)
set_option maxHeartbeats 4000000 in
set_option maxRecDepth 100000 in
theorem ct_BlockWriter_putBlock {q_bw q_i q_iB q_t q_tB q_mt q_mtb q_mtl : Nat} {i_c : Int32} {i_f : Nat → Int32} {t_c : Int32} {t_f : Nat → Int32} {mt_from : Int32} {mt_to : Int32} {mt_len : Int32} {mt_dist : Int32} {mt_bef : Nat → Int32} {mt_lat : Nat → Int32} {N : Nat} {x1 : Int32} {x2 : Int32} {x3 : Int32} {t_c' : Int32} {t_f' : Nat → Int32} {mt_from' : Int32} {mt_to' : Int32} {mt_len' : Int32} {mt_dist' : Int32} (hm : m_BlockWriter_putBlock N x1 x2 x3 i_c i_f t_c t_f mt_from mt_to mt_len mt_dist mt_bef = some (t_c', t_f', mt_from', mt_to', mt_len', mt_dist')) (sz : Nat) : tp_Cv l y_BlockWriter_putBlock ws_BlockWriter_putBlock rm_BlockWriter_putBlock D (tp_ty cB cI) tM [.ref q_bw, .int x1, .int x2, .int x3] [(q_bw, .inr (1, [.ref q_i, .ref q_t, .ref q_mt])), (q_i, .inr (3, [.ref q_iB, .int i_c])), (q_iB, .inl (cB, 10000, .inl i_f)), (q_t, .inr (3, [.ref q_tB, .int t_c])), (q_tB, .inl (cB, 10000, .inl t_f)), (q_mt, .inr (2, [.ref q_i, .ref q_mtb, .ref q_mtl, .int mt_from, .int mt_to, .int mt_len, .int mt_dist])), (q_mtb, .inl (cI, 10000, .inl mt_bef)), (q_mtl, .inl (cI, 2048, .inl mt_lat))] sz [(q_bw, .inr (1, [.ref q_i, .ref q_t, .ref q_mt])), (q_i, .inr (3, [.ref q_iB, .int i_c])), (q_iB, .inl (cB, 10000, .inl i_f)), (q_t, .inr (3, [.ref q_tB, .int t_c'])), (q_tB, .inl (cB, 10000, .inl t_f')), (q_mt, .inr (2, [.ref q_i, .ref q_mtb, .ref q_mtl, .int mt_from', .int mt_to', .int mt_len', .int mt_dist'])), (q_mtb, .inl (cI, 10000, .inl mt_bef)), (q_mtl, .inl (cI, 2048, .inl mt_lat))] := by
  refine Met.ofW (cc := c_BlockWriter_putBlock) (maxL := 6) (ret := none) (by decide) rfl ?_
  intro p e s m args below meth c s₁ B hml hv
  obtain ⟨rfl, hv⟩ := hv
  have hw := tp_entry hv
  generalize va_A [(q_bw, .inr (1, [.ref q_i, .ref q_t, .ref q_mt])), (q_i, .inr (3, [.ref q_iB, .int i_c])), (q_iB, .inl (cB, 10000, .inl i_f)), (q_t, .inr (3, [.ref q_tB, .int t_c])), (q_tB, .inl (cB, 10000, .inl t_f)), (q_mt, .inr (2, [.ref q_i, .ref q_mtb, .ref q_mtl, .int mt_from, .int mt_to, .int mt_len, .int mt_dist])), (q_mtb, .inl (cI, 10000, .inl mt_bef)), (q_mtl, .inl (cI, 2048, .inl mt_lat))] sz = A at hw ⊢
  have hx := B.exec
  have hb := B.bytes
  have hr := B.returns
  have hts0 := atoms_spec (ws := ws_BlockWriter_putBlock) B.pre
  have hts := fun w h => hts0 w (List.mem_cons_of_mem _ h)
  have hown : s.vm.findClass R_BlockWriter = some m.cls := findClass_of_methodNamed B.named
  have hlocks := B.notSynchronized
  have hF : CallFix p m c c_BlockWriter_putBlock 6 s _ tpG R_BlockWriter := ⟨hx, hb, hml, hown, hts⟩
  have hF2 : tp_F p m c c_BlockWriter_putBlock 6 s _ tpG R_BlockWriter meth none := ⟨hF, hr, hlocks⟩
  have hl := lv_entry ([.ref q_bw, .int x1, .int x2, .int x3]) (n := 6) (Nat.le_of_ble_eq_true rfl)
  rw [lg_entry_eq]
  generalize (lg_sl ([.ref q_bw, .int x1, .int x2, .int x3]) ++ List.replicate (6 - (lg_sl ([.ref q_bw, .int x1, .int x2, .int x3])).length) Slot.unset).toArray = ls at hl ⊢
  replace hl : lv_has ls 6 [(0, .ref q_bw), (1, .int x1), (2, .int x2), (3, .int x3)] := hl
  unfold m_BlockWriter_putBlock at hm
  refine lv_aload_n hx hb d_BlockWriter_putBlock_0 rfl (lv_at hl 0 rfl) ?_
  refine tp_get (v := .ref q_mt) (C := R_BlockWriter) (T := T_BlockWriter) hx hb hts fw_BlockWriter hown hw 0 rfl rfl 2 (by decide +kernel) (hts _ wd_91) rfl d_BlockWriter_putBlock_1 ?_
  refine lv_iload_n hx hb d_BlockWriter_putBlock_4 rfl (lv_at hl 1 rfl) ?_
  refine lv_iload_n hx hb d_BlockWriter_putBlock_5 rfl (lv_at hl 2 rfl) ?_
  obtain ⟨mt_from_1, mt_to_2, hm3, hm⟩ := tp_b2_e hm
  refine tp_callv (wr := [(q_bw, .inr (1, [.ref q_i, .ref q_t, .ref q_mt])), (q_t, .inr (3, [.ref q_tB, .int t_c])), (q_tB, .inl (cB, 10000, .inl t_f))]) (WS' := [(q_bw, .inr (1, [.ref q_i, .ref q_t, .ref q_mt])), (q_i, .inr (3, [.ref q_iB, .int i_c])), (q_iB, .inl (cB, 10000, .inl i_f)), (q_t, .inr (3, [.ref q_tB, .int t_c])), (q_tB, .inl (cB, 10000, .inl t_f)), (q_mt, .inr (2, [.ref q_i, .ref q_mtb, .ref q_mtl, .int mt_from_1, .int mt_to_2, .int mt_len, .int mt_dist])), (q_mtb, .inl (cI, 10000, .inl mt_bef)), (q_mtl, .inl (cI, 2048, .inl mt_lat))]) (va_runV (As := [.int x1, .int x2]) (rest := []) hF (ct_Matches_keepWithin (l := l) (D := D) (cB := cB) (cI := cI) (tM := tM) (q_mt := q_mt) (q_i := q_i) (q_iB := q_iB) (q_mtb := q_mtb) (q_mtl := q_mtl) (mt_from := mt_from) (mt_to := mt_to) (mt_len := mt_len) (mt_dist := mt_dist) (i_c := i_c) (i_f := i_f) (mt_bef := mt_bef) (mt_lat := mt_lat) (x1 := x1) (x2 := x2) (mt_from' := mt_from_1) (mt_to' := mt_to_2) hm3 _) (cwV 2 hts (tpG_V wd_93 wd_94 wd_95 wd_42 wd_92) rfl rfl rfl ⟨rfl, yd_Matches_keepWithin⟩ ⟨Nat.le_of_ble_eq_true rfl, Nat.le_of_ble_eq_true rfl⟩) ⟨tp_blind, va_recv hw.1 hw.2.1 (ci := 2) (q0 := 5) rfl rfl, tp_pre hw [5, 1, 2, 6, 7] rfl rfl⟩ rfl rfl hl.1 rfl (lv_room (Nat.le_of_ble_eq_true rfl)) d_BlockWriter_putBlock_6 ⟨Nat.le_of_ble_eq_true rfl, Nat.le_of_ble_eq_true rfl⟩) hw [5, 1, 2, 6, 7] [0, 3, 4] [0, 4, 5, 1, 2, 3, 6, 7] rfl rfl rfl (by decide) rfl rfl (fun H locs hw => ?_)
  refine lv_aload_n hx hb d_BlockWriter_putBlock_9 rfl (lv_at hl 0 rfl) ?_
  refine lv_iload_n hx hb d_BlockWriter_putBlock_10 rfl (lv_at hl 2 rfl) ?_
  refine lv_iload_n hx hb d_BlockWriter_putBlock_11 rfl (lv_at hl 1 rfl) ?_
  refine lv_isub hx hb d_BlockWriter_putBlock_12 ?_
  obtain ⟨t_c_4, t_f_5, hm6, hm⟩ := tp_b2_e hm
  refine tp_callv (wr := []) (WS' := [(q_bw, .inr (1, [.ref q_i, .ref q_t, .ref q_mt])), (q_i, .inr (3, [.ref q_iB, .int i_c])), (q_iB, .inl (cB, 10000, .inl i_f)), (q_t, .inr (3, [.ref q_tB, .int t_c_4])), (q_tB, .inl (cB, 10000, .inl t_f_5)), (q_mt, .inr (2, [.ref q_i, .ref q_mtb, .ref q_mtl, .int mt_from_1, .int mt_to_2, .int mt_len, .int mt_dist])), (q_mtb, .inl (cI, 10000, .inl mt_bef)), (q_mtl, .inl (cI, 2048, .inl mt_lat))]) (va_runV (As := [.int (x2 - x1)]) (rest := []) hF (ct_BlockWriter_putLength (l := l) (D := D) (cB := cB) (cI := cI) (tM := tM) (q_bw := q_bw) (q_i := q_i) (q_iB := q_iB) (q_t := q_t) (q_tB := q_tB) (q_mt := q_mt) (q_mtb := q_mtb) (q_mtl := q_mtl) (i_c := i_c) (i_f := i_f) (t_c := t_c) (t_f := t_f) (mt_from := mt_from_1) (mt_to := mt_to_2) (mt_len := mt_len) (mt_dist := mt_dist) (mt_bef := mt_bef) (mt_lat := mt_lat) (x1 := (x2 - x1)) (N := N) (t_c' := t_c_4) (t_f' := t_f_5) hm6 _) (cwV 1 hts (tpG_V wd_98 wd_99 wd_100 wd_97 wd_96) rfl rfl rfl ⟨rfl, yd_BlockWriter_putLength⟩ ⟨Nat.le_of_ble_eq_true rfl, Nat.le_of_ble_eq_true rfl⟩) ⟨tp_blind, va_recv hw.1 hw.2.1 (ci := 1) (q0 := 0) rfl rfl, tp_pre hw [0, 1, 2, 3, 4, 5, 6, 7] rfl rfl⟩ rfl rfl hl.1 rfl (lv_room (Nat.le_of_ble_eq_true rfl)) d_BlockWriter_putBlock_13 ⟨Nat.le_of_ble_eq_true rfl, Nat.le_of_ble_eq_true rfl⟩) hw [0, 1, 2, 3, 4, 5, 6, 7] [] [0, 1, 2, 3, 4, 5, 6, 7] rfl rfl rfl (by decide) rfl rfl (fun H locs hw => ?_)
  refine lv_iload_n hx hb d_BlockWriter_putBlock_16 rfl (lv_at hl 1 rfl) ?_
  refine lv_istore (lv' := [(4, .int x1), (0, .ref q_bw), (1, .int x1), (2, .int x2), (3, .int x3)]) hx hb d_BlockWriter_putBlock_17 hl (by decide +kernel) rfl (fun ls hl => ?_)
  refine lv_iload_n hx hb d_BlockWriter_putBlock_19 rfl (lv_at hl 2 rfl) ?_
  refine lv_istore (lv' := [(5, .int x1), (4, .int x1), (0, .ref q_bw), (1, .int x1), (2, .int x2), (3, .int x3)]) hx hb d_BlockWriter_putBlock_20 hl (by decide +kernel) rfl (fun ls hl => ?_)
  exact w_BlockWriter_putBlock_22 hF2  N _ _ _ _ _ _ _ _ _ _ _ _ _ hm hw (lv_sub hl [2, 4, 5, 1, 0] rfl)
end
