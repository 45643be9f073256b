abbrev rm_Row_init : Room := { frames := 1, cells := 1, slots := 10000, locals := 12 }
abbrev ws_Row_init : List Cond := .code y_Row_init c_Row_init 1 none :: tpG
section
variable {p : Program} {l : Launch} {e : Env} {s : State} {m : MethodId} {args : Array Value} {below : List Frame} {meth : Method} {c : Code} {A : Nat → Prop} {D : va_G} {cB cI : ClassId} {tM : Nat}
set_option maxHeartbeats 4000000 in
set_option maxRecDepth 100000 in
theorem ct_Row_init {q_a : Nat} (sz : Nat) : tp_Cn (S := Nat) l y_Row_init ws_Row_init rm_Row_init D (tp_ty cB cI) tM [.ref q_a] [(q_a, .inr (3, [.null, .int 0]))] sz (fun u => [(q_a, .inr (3, [.ref u, .int (0 : Int32)])), (u, .inl (cB, 10000, .inl (fun _ => 0)))]) 1 10000 := by
  refine Met.ofW (cc := c_Row_init) (maxL := 1) (ret := none) (by decide) rfl ?_
  intro p e s m args below meth c s₁ B hml hv
  obtain ⟨rfl, hv⟩ := hv
  have hw := tp_entry hv
  generalize va_A [(q_a, .inr (3, [.null, .int 0]))] sz = A at hw ⊢
  have hx := B.exec
  have hb := B.bytes
  have hr := B.returns
  have hts0 := atoms_spec (ws := ws_Row_init) B.pre
  have hts := fun w h => hts0 w (List.mem_cons_of_mem _ h)
  have hown : s.vm.findClass R_Row = some m.cls := findClass_of_methodNamed B.named
  have hlocks := B.notSynchronized
  have hin : meth.name = "<init>" := (name_of_methodNamed B.named B.method).1
  have hF : CallFix p m c c_Row_init 1 s _ tpG R_Row := ⟨hx, hb, hml, hown, hts⟩
  have hF2 : tp_F p m c c_Row_init 1 s _ tpG R_Row meth none := ⟨hF, hr, hlocks⟩
  have hl := lv_entry ([.ref q_a]) (n := 1) (Nat.le_of_ble_eq_true rfl)
  rw [lg_entry_eq]
  generalize (lg_sl ([.ref q_a]) ++ List.replicate (1 - (lg_sl ([.ref q_a])).length) Slot.unset).toArray = ls at hl ⊢
  replace hl : lv_has ls 1 [(0, .ref q_a)] := hl
  have hm : some () = some () := rfl
  refine lv_aload_n hx hb d_Row_init_0 rfl (lv_at hl 0 rfl) ?_
  refine W.objInit hx hb hown (hts _ wd_292) (hts _ wd_293) (hts _ wd_294) rfl (by rw [hml]; exact hl.1) rfl d_Row_init_1 (Nat.le_of_ble_eq_true rfl) (Nat.le_of_ble_eq_true rfl) ?_
  refine W.eq (g2 := F0 m 4 ls []) rfl ?_
  refine lv_aload_n hx hb d_Row_init_4 rfl (lv_at hl 0 rfl) ?_
  refine lv_sipush (v := (10000 : Int32)) hx hb d_Row_init_5 (by decide +kernel) ?_
  refine tp_newaB (N' := 10000) hx hb (hts _ wd_295) hw (by decide +kernel) (by decide +kernel) (by decide +kernel) (Nat.le_of_ble_eq_true rfl) (Nat.le_of_ble_eq_true rfl) d_Row_init_8 rfl (fun q_n8 H hw => ?_)
  replace hw : tp_Wd D (tp_ty cB cI) tM A s _ _ [(q_a, .inr (3, [.null, .int 0])), (q_n8, .inl (cB, 10000, .inl (fun _ => 0)))] := hw
  refine tp_putF (v := .ref q_n8) (C := R_Row) (T := T_Row) (WS' := [(q_a, .inr (3, [.ref q_n8, .int 0])), (q_n8, .inl (cB, 10000, .inl (fun _ => 0)))]) hx hb hts fw_Row ty_Row ty_Row_ok nm_Row hown hw 0 rfl rfl 0 (by decide +kernel) (hts _ wd_1) rfl hin rfl rfl rfl (Nat.le_of_ble_eq_true rfl) rfl d_Row_init_10 (fun H locs hw => ?_)
  refine lv_aload_n hx hb d_Row_init_13 rfl (lv_at hl 0 rfl) ?_
  refine lv_iconst (v := (0 : Int32)) hx hb d_Row_init_14 (by decide +kernel) ?_
  refine tp_put (v := .int (0 : Int32)) (C := R_Row) (T := T_Row) (WS' := [(q_a, .inr (3, [.ref q_n8, .int (0 : Int32)])), (q_n8, .inl (cB, 10000, .inl (fun _ => 0)))]) hx hb hts fw_Row ty_Row ty_Row_ok nm_Row hown hw 0 rfl rfl 1 (by decide +kernel) (hts _ wd_0) rfl rfl rfl (Nat.le_of_ble_eq_true rfl) rfl d_Row_init_15 (fun H locs hw => ?_)
  exact tp_vret (q_n8) hx hb hr hlocks hw d_Row_init_18
end
abbrev rm_Matches_init : Room := { frames := 1, cells := 2, slots := 12048, locals := 12 }
abbrev ws_Matches_init : List Cond := .code y_Matches_init c_Matches_init 2 none :: tpG
section
variable {p : Program} {l : Launch} {e : Env} {s : State} {m : MethodId} {args : Array Value} {below : List Frame} {meth : Method} {c : Code} {A : Nat → Prop} {D : va_G} {cB cI : ClassId} {tM : Nat}
set_option maxHeartbeats 4000000 in
set_option maxRecDepth 100000 in
theorem ct_Matches_init {q_mt q_b : Nat} (sz : Nat) : tp_Cn (S := Nat × Nat) l y_Matches_init ws_Matches_init rm_Matches_init D (tp_ty cB cI) tM [.ref q_mt, .ref q_b] [(q_mt, .inr (2, [.null, .null, .null, .int 0, .int 0, .int 0, .int 0]))] sz (fun u => [(q_mt, .inr (2, [.ref q_b, .ref u.1, .ref u.2, .int (0 : Int32), .int (0 : Int32), .int (0 : Int32), .int (0 : Int32)])), (u.1, .inl (cI, 10000, .inl (fun _ => 0))), (u.2, .inl (cI, 2048, .inl (fun _ => 0)))]) 2 12048 := by
  refine Met.ofW (cc := c_Matches_init) (maxL := 2) (ret := none) (by decide) rfl ?_
  intro p e s m args below meth c s₁ B hml hv
  obtain ⟨rfl, hv⟩ := hv
  have hw := tp_entry hv
  generalize va_A [(q_mt, .inr (2, [.null, .null, .null, .int 0, .int 0, .int 0, .int 0]))] sz = A at hw ⊢
  have hx := B.exec
  have hb := B.bytes
  have hr := B.returns
  have hts0 := atoms_spec (ws := ws_Matches_init) B.pre
  have hts := fun w h => hts0 w (List.mem_cons_of_mem _ h)
  have hown : s.vm.findClass R_Matches = some m.cls := findClass_of_methodNamed B.named
  have hlocks := B.notSynchronized
  have hin : meth.name = "<init>" := (name_of_methodNamed B.named B.method).1
  have hF : CallFix p m c c_Matches_init 2 s _ tpG R_Matches := ⟨hx, hb, hml, hown, hts⟩
  have hF2 : tp_F p m c c_Matches_init 2 s _ tpG R_Matches meth none := ⟨hF, hr, hlocks⟩
  have hl := lv_entry ([.ref q_mt, .ref q_b]) (n := 2) (Nat.le_of_ble_eq_true rfl)
  rw [lg_entry_eq]
  generalize (lg_sl ([.ref q_mt, .ref q_b]) ++ List.replicate (2 - (lg_sl ([.ref q_mt, .ref q_b])).length) Slot.unset).toArray = ls at hl ⊢
  replace hl : lv_has ls 2 [(0, .ref q_mt), (1, .ref q_b)] := hl
  have hm : some () = some () := rfl
  refine lv_aload_n hx hb d_Matches_init_0 rfl (lv_at hl 0 rfl) ?_
  refine W.objInit hx hb hown (hts _ wd_296) (hts _ wd_293) (hts _ wd_294) rfl (by rw [hml]; exact hl.1) rfl d_Matches_init_1 (Nat.le_of_ble_eq_true rfl) (Nat.le_of_ble_eq_true rfl) ?_
  refine W.eq (g2 := F0 m 4 ls []) rfl ?_
  refine lv_aload_n hx hb d_Matches_init_4 rfl (lv_at hl 0 rfl) ?_
  refine lv_sipush (v := (10000 : Int32)) hx hb d_Matches_init_5 (by decide +kernel) ?_
  refine tp_newaI (N' := 10000) hx hb (hts _ wd_297) hw (by decide +kernel) (by decide +kernel) (by decide +kernel) (Nat.le_of_ble_eq_true rfl) (Nat.le_of_ble_eq_true rfl) d_Matches_init_8 rfl (fun q_n8 H hw => ?_)
  replace hw : tp_Wd D (tp_ty cB cI) tM A s _ _ [(q_mt, .inr (2, [.null, .null, .null, .int 0, .int 0, .int 0, .int 0])), (q_n8, .inl (cI, 10000, .inl (fun _ => 0)))] := hw
  refine tp_putF (v := .ref q_n8) (C := R_Matches) (T := T_Matches) (WS' := [(q_mt, .inr (2, [.null, .ref q_n8, .null, .int 0, .int 0, .int 0, .int 0])), (q_n8, .inl (cI, 10000, .inl (fun _ => 0)))]) hx hb hts fw_Matches ty_Matches ty_Matches_ok nm_Matches hown hw 0 rfl rfl 1 (by decide +kernel) (hts _ wd_46) rfl hin rfl rfl rfl (Nat.le_of_ble_eq_true rfl) rfl d_Matches_init_10 (fun H locs hw => ?_)
  refine lv_aload_n hx hb d_Matches_init_13 rfl (lv_at hl 0 rfl) ?_
  refine lv_sipush (v := (2048 : Int32)) hx hb d_Matches_init_14 (by decide +kernel) ?_
  refine tp_newaI (N' := 2048) hx hb (hts _ wd_297) hw (by decide +kernel) (by decide +kernel) (by decide +kernel) (Nat.le_of_ble_eq_true rfl) (Nat.le_of_ble_eq_true rfl) d_Matches_init_17 rfl (fun q_n17 H hw => ?_)
  replace hw : tp_Wd D (tp_ty cB cI) tM A s _ _ [(q_mt, .inr (2, [.null, .ref q_n8, .null, .int 0, .int 0, .int 0, .int 0])), (q_n8, .inl (cI, 10000, .inl (fun _ => 0))), (q_n17, .inl (cI, 2048, .inl (fun _ => 0)))] := hw
  refine tp_putF (v := .ref q_n17) (C := R_Matches) (T := T_Matches) (WS' := [(q_mt, .inr (2, [.null, .ref q_n8, .ref q_n17, .int 0, .int 0, .int 0, .int 0])), (q_n8, .inl (cI, 10000, .inl (fun _ => 0))), (q_n17, .inl (cI, 2048, .inl (fun _ => 0)))]) hx hb hts fw_Matches ty_Matches ty_Matches_ok nm_Matches hown hw 0 rfl rfl 2 (by decide +kernel) (hts _ wd_36) rfl hin rfl rfl rfl (Nat.le_of_ble_eq_true rfl) rfl d_Matches_init_19 (fun H locs hw => ?_)
  refine lv_aload_n hx hb d_Matches_init_22 rfl (lv_at hl 0 rfl) ?_
  refine lv_iconst (v := (0 : Int32)) hx hb d_Matches_init_23 (by decide +kernel) ?_
  refine tp_put (v := .int (0 : Int32)) (C := R_Matches) (T := T_Matches) (WS' := [(q_mt, .inr (2, [.null, .ref q_n8, .ref q_n17, .int (0 : Int32), .int 0, .int 0, .int 0])), (q_n8, .inl (cI, 10000, .inl (fun _ => 0))), (q_n17, .inl (cI, 2048, .inl (fun _ => 0)))]) hx hb hts fw_Matches ty_Matches ty_Matches_ok nm_Matches hown hw 0 rfl rfl 3 (by decide +kernel) (hts _ wd_51) rfl rfl rfl (Nat.le_of_ble_eq_true rfl) rfl d_Matches_init_24 (fun H locs hw => ?_)
  refine lv_aload_n hx hb d_Matches_init_27 rfl (lv_at hl 0 rfl) ?_
  refine lv_iconst (v := (0 : Int32)) hx hb d_Matches_init_28 (by decide +kernel) ?_
  refine tp_put (v := .int (0 : Int32)) (C := R_Matches) (T := T_Matches) (WS' := [(q_mt, .inr (2, [.null, .ref q_n8, .ref q_n17, .int (0 : Int32), .int (0 : Int32), .int 0, .int 0])), (q_n8, .inl (cI, 10000, .inl (fun _ => 0))), (q_n17, .inl (cI, 2048, .inl (fun _ => 0)))]) hx hb hts fw_Matches ty_Matches ty_Matches_ok nm_Matches hown hw 0 rfl rfl 4 (by decide +kernel) (hts _ wd_55) rfl rfl rfl (Nat.le_of_ble_eq_true rfl) rfl d_Matches_init_29 (fun H locs hw => ?_)
  refine lv_aload_n hx hb d_Matches_init_32 rfl (lv_at hl 0 rfl) ?_
  refine lv_iconst (v := (0 : Int32)) hx hb d_Matches_init_33 (by decide +kernel) ?_
  refine tp_put (v := .int (0 : Int32)) (C := R_Matches) (T := T_Matches) (WS' := [(q_mt, .inr (2, [.null, .ref q_n8, .ref q_n17, .int (0 : Int32), .int (0 : Int32), .int (0 : Int32), .int 0])), (q_n8, .inl (cI, 10000, .inl (fun _ => 0))), (q_n17, .inl (cI, 2048, .inl (fun _ => 0)))]) hx hb hts fw_Matches ty_Matches ty_Matches_ok nm_Matches hown hw 0 rfl rfl 5 (by decide +kernel) (hts _ wd_56) rfl rfl rfl (Nat.le_of_ble_eq_true rfl) rfl d_Matches_init_34 (fun H locs hw => ?_)
  refine lv_aload_n hx hb d_Matches_init_37 rfl (lv_at hl 0 rfl) ?_
  refine lv_iconst (v := (0 : Int32)) hx hb d_Matches_init_38 (by decide +kernel) ?_
  refine tp_put (v := .int (0 : Int32)) (C := R_Matches) (T := T_Matches) (WS' := [(q_mt, .inr (2, [.null, .ref q_n8, .ref q_n17, .int (0 : Int32), .int (0 : Int32), .int (0 : Int32), .int (0 : Int32)])), (q_n8, .inl (cI, 10000, .inl (fun _ => 0))), (q_n17, .inl (cI, 2048, .inl (fun _ => 0)))]) hx hb hts fw_Matches ty_Matches ty_Matches_ok nm_Matches hown hw 0 rfl rfl 6 (by decide +kernel) (hts _ wd_65) rfl rfl rfl (Nat.le_of_ble_eq_true rfl) rfl d_Matches_init_39 (fun H locs hw => ?_)
  refine lv_aload_n hx hb d_Matches_init_42 rfl (lv_at hl 0 rfl) ?_
  refine lv_aload_n hx hb d_Matches_init_43 rfl (lv_at hl 1 rfl) ?_
  refine tp_putF (v := .ref q_b) (C := R_Matches) (T := T_Matches) (WS' := [(q_mt, .inr (2, [.ref q_b, .ref q_n8, .ref q_n17, .int (0 : Int32), .int (0 : Int32), .int (0 : Int32), .int (0 : Int32)])), (q_n8, .inl (cI, 10000, .inl (fun _ => 0))), (q_n17, .inl (cI, 2048, .inl (fun _ => 0)))]) hx hb hts fw_Matches ty_Matches ty_Matches_ok nm_Matches hown hw 0 rfl rfl 0 (by decide +kernel) (hts _ wd_30) rfl hin rfl rfl rfl (Nat.le_of_ble_eq_true rfl) rfl d_Matches_init_44 (fun H locs hw => ?_)
  exact tp_vret (q_n8, q_n17) hx hb hr hlocks hw d_Matches_init_47
end
abbrev rm_BlockWriter_init : Room := { frames := 1, cells := 0, slots := 0, locals := 12 }
abbrev ws_BlockWriter_init : List Cond := .code y_BlockWriter_init c_BlockWriter_init 4 none :: tpG
section
variable {p : Program} {l : Launch} {e : Env} {s : State} {m : MethodId} {args : Array Value} {below : List Frame} {meth : Method} {c : Code} {A : Nat → Prop} {D : va_G} {cB cI : ClassId} {tM : Nat}
set_option maxHeartbeats 4000000 in
set_option maxRecDepth 100000 in
theorem ct_BlockWriter_init {q_bw q_b q_d q_g : Nat} (sz : Nat) : tp_Cn (S := Unit) l y_BlockWriter_init ws_BlockWriter_init rm_BlockWriter_init D (tp_ty cB cI) tM [.ref q_bw, .ref q_b, .ref q_d, .ref q_g] [(q_bw, .inr (1, [.null, .null, .null]))] sz (fun _ => [(q_bw, .inr (1, [.ref q_b, .ref q_d, .ref q_g]))]) 0 0 := by
  refine Met.ofW (cc := c_BlockWriter_init) (maxL := 4) (ret := none) (by decide) rfl ?_
  intro p e s m args below meth c s₁ B hml hv
  obtain ⟨rfl, hv⟩ := hv
  have hw := tp_entry hv
  generalize va_A [(q_bw, .inr (1, [.null, .null, .null]))] sz = A at hw ⊢
  have hx := B.exec
  have hb := B.bytes
  have hr := B.returns
  have hts0 := atoms_spec (ws := ws_BlockWriter_init) B.pre
  have hts := fun w h => hts0 w (List.mem_cons_of_mem _ h)
  have hown : s.vm.findClass R_BlockWriter = some m.cls := findClass_of_methodNamed B.named
  have hlocks := B.notSynchronized
  have hin : meth.name = "<init>" := (name_of_methodNamed B.named B.method).1
  have hF : CallFix p m c c_BlockWriter_init 4 s _ tpG R_BlockWriter := ⟨hx, hb, hml, hown, hts⟩
  have hF2 : tp_F p m c c_BlockWriter_init 4 s _ tpG R_BlockWriter meth none := ⟨hF, hr, hlocks⟩
  have hl := lv_entry ([.ref q_bw, .ref q_b, .ref q_d, .ref q_g]) (n := 4) (Nat.le_of_ble_eq_true rfl)
  rw [lg_entry_eq]
  generalize (lg_sl ([.ref q_bw, .ref q_b, .ref q_d, .ref q_g]) ++ List.replicate (4 - (lg_sl ([.ref q_bw, .ref q_b, .ref q_d, .ref q_g])).length) Slot.unset).toArray = ls at hl ⊢
  replace hl : lv_has ls 4 [(0, .ref q_bw), (1, .ref q_b), (2, .ref q_d), (3, .ref q_g)] := hl
  have hm : some () = some () := rfl
  refine lv_aload_n hx hb d_BlockWriter_init_0 rfl (lv_at hl 0 rfl) ?_
  refine W.objInit hx hb hown (hts _ wd_298) (hts _ wd_293) (hts _ wd_294) rfl (by rw [hml]; exact hl.1) rfl d_BlockWriter_init_1 (Nat.le_of_ble_eq_true rfl) (Nat.le_of_ble_eq_true rfl) ?_
  refine W.eq (g2 := F0 m 4 ls []) rfl ?_
  refine lv_aload_n hx hb d_BlockWriter_init_4 rfl (lv_at hl 0 rfl) ?_
  refine lv_aload_n hx hb d_BlockWriter_init_5 rfl (lv_at hl 1 rfl) ?_
  refine tp_putF (v := .ref q_b) (C := R_BlockWriter) (T := T_BlockWriter) (WS' := [(q_bw, .inr (1, [.ref q_b, .null, .null]))]) hx hb hts fw_BlockWriter ty_BlockWriter ty_BlockWriter_ok nm_BlockWriter hown hw 0 rfl rfl 0 (by decide +kernel) (hts _ wd_85) rfl hin rfl rfl rfl (Nat.le_of_ble_eq_true rfl) rfl d_BlockWriter_init_6 (fun H locs hw => ?_)
  refine lv_aload_n hx hb d_BlockWriter_init_9 rfl (lv_at hl 0 rfl) ?_
  refine lv_aload_n hx hb d_BlockWriter_init_10 rfl (lv_at hl 2 rfl) ?_
  refine tp_putF (v := .ref q_d) (C := R_BlockWriter) (T := T_BlockWriter) (WS' := [(q_bw, .inr (1, [.ref q_b, .ref q_d, .null]))]) hx hb hts fw_BlockWriter ty_BlockWriter ty_BlockWriter_ok nm_BlockWriter hown hw 0 rfl rfl 1 (by decide +kernel) (hts _ wd_79) rfl hin rfl rfl rfl (Nat.le_of_ble_eq_true rfl) rfl d_BlockWriter_init_11 (fun H locs hw => ?_)
  refine lv_aload_n hx hb d_BlockWriter_init_14 rfl (lv_at hl 0 rfl) ?_
  refine lv_aload_n hx hb d_BlockWriter_init_15 rfl (lv_at hl 3 rfl) ?_
  refine tp_putF (v := .ref q_g) (C := R_BlockWriter) (T := T_BlockWriter) (WS' := [(q_bw, .inr (1, [.ref q_b, .ref q_d, .ref q_g]))]) hx hb hts fw_BlockWriter ty_BlockWriter ty_BlockWriter_ok nm_BlockWriter hown hw 0 rfl rfl 2 (by decide +kernel) (hts _ wd_91) rfl hin rfl rfl rfl (Nat.le_of_ble_eq_true rfl) rfl d_BlockWriter_init_16 (fun H locs hw => ?_)
  exact tp_vret () hx hb hr hlocks hw d_BlockWriter_init_19
end
abbrev rm_StreamWriter_init : Room := { frames := 1, cells := 0, slots := 0, locals := 12 }
abbrev ws_StreamWriter_init : List Cond := .code y_StreamWriter_init c_StreamWriter_init 4 none :: tpG
section
variable {p : Program} {l : Launch} {e : Env} {s : State} {m : MethodId} {args : Array Value} {below : List Frame} {meth : Method} {c : Code} {A : Nat → Prop} {D : va_G} {cB cI : ClassId} {tM : Nat}
set_option maxHeartbeats 4000000 in
set_option maxRecDepth 100000 in
theorem ct_StreamWriter_init {q_sw q_b q_d q_g : Nat} (sz : Nat) : tp_Cn (S := Unit) l y_StreamWriter_init ws_StreamWriter_init rm_StreamWriter_init D (tp_ty cB cI) tM [.ref q_sw, .ref q_b, .ref q_d, .ref q_g] [(q_sw, .inr (5, [.null, .null, .null]))] sz (fun _ => [(q_sw, .inr (5, [.ref q_b, .ref q_d, .ref q_g]))]) 0 0 := by
  refine Met.ofW (cc := c_StreamWriter_init) (maxL := 4) (ret := none) (by decide) rfl ?_
  intro p e s m args below meth c s₁ B hml hv
  obtain ⟨rfl, hv⟩ := hv
  have hw := tp_entry hv
  generalize va_A [(q_sw, .inr (5, [.null, .null, .null]))] sz = A at hw ⊢
  have hx := B.exec
  have hb := B.bytes
  have hr := B.returns
  have hts0 := atoms_spec (ws := ws_StreamWriter_init) B.pre
  have hts := fun w h => hts0 w (List.mem_cons_of_mem _ h)
  have hown : s.vm.findClass R_StreamWriter = some m.cls := findClass_of_methodNamed B.named
  have hlocks := B.notSynchronized
  have hin : meth.name = "<init>" := (name_of_methodNamed B.named B.method).1
  have hF : CallFix p m c c_StreamWriter_init 4 s _ tpG R_StreamWriter := ⟨hx, hb, hml, hown, hts⟩
  have hF2 : tp_F p m c c_StreamWriter_init 4 s _ tpG R_StreamWriter meth none := ⟨hF, hr, hlocks⟩
  have hl := lv_entry ([.ref q_sw, .ref q_b, .ref q_d, .ref q_g]) (n := 4) (Nat.le_of_ble_eq_true rfl)
  rw [lg_entry_eq]
  generalize (lg_sl ([.ref q_sw, .ref q_b, .ref q_d, .ref q_g]) ++ List.replicate (4 - (lg_sl ([.ref q_sw, .ref q_b, .ref q_d, .ref q_g])).length) Slot.unset).toArray = ls at hl ⊢
  replace hl : lv_has ls 4 [(0, .ref q_sw), (1, .ref q_b), (2, .ref q_d), (3, .ref q_g)] := hl
  have hm : some () = some () := rfl
  refine lv_aload_n hx hb d_StreamWriter_init_0 rfl (lv_at hl 0 rfl) ?_
  refine W.objInit hx hb hown (hts _ wd_299) (hts _ wd_293) (hts _ wd_294) rfl (by rw [hml]; exact hl.1) rfl d_StreamWriter_init_1 (Nat.le_of_ble_eq_true rfl) (Nat.le_of_ble_eq_true rfl) ?_
  refine W.eq (g2 := F0 m 4 ls []) rfl ?_
  refine lv_aload_n hx hb d_StreamWriter_init_4 rfl (lv_at hl 0 rfl) ?_
  refine lv_aload_n hx hb d_StreamWriter_init_5 rfl (lv_at hl 1 rfl) ?_
  refine tp_putF (v := .ref q_b) (C := R_StreamWriter) (T := T_StreamWriter) (WS' := [(q_sw, .inr (5, [.ref q_b, .null, .null]))]) hx hb hts fw_StreamWriter ty_StreamWriter ty_StreamWriter_ok nm_StreamWriter hown hw 0 rfl rfl 0 (by decide +kernel) (hts _ wd_116) rfl hin rfl rfl rfl (Nat.le_of_ble_eq_true rfl) rfl d_StreamWriter_init_6 (fun H locs hw => ?_)
  refine lv_aload_n hx hb d_StreamWriter_init_9 rfl (lv_at hl 0 rfl) ?_
  refine lv_aload_n hx hb d_StreamWriter_init_10 rfl (lv_at hl 2 rfl) ?_
  refine tp_putF (v := .ref q_d) (C := R_StreamWriter) (T := T_StreamWriter) (WS' := [(q_sw, .inr (5, [.ref q_b, .ref q_d, .null]))]) hx hb hts fw_StreamWriter ty_StreamWriter ty_StreamWriter_ok nm_StreamWriter hown hw 0 rfl rfl 1 (by decide +kernel) (hts _ wd_113) rfl hin rfl rfl rfl (Nat.le_of_ble_eq_true rfl) rfl d_StreamWriter_init_11 (fun H locs hw => ?_)
  refine lv_aload_n hx hb d_StreamWriter_init_14 rfl (lv_at hl 0 rfl) ?_
  refine lv_aload_n hx hb d_StreamWriter_init_15 rfl (lv_at hl 3 rfl) ?_
  refine tp_putF (v := .ref q_g) (C := R_StreamWriter) (T := T_StreamWriter) (WS' := [(q_sw, .inr (5, [.ref q_b, .ref q_d, .ref q_g]))]) hx hb hts fw_StreamWriter ty_StreamWriter ty_StreamWriter_ok nm_StreamWriter hown hw 0 rfl rfl 2 (by decide +kernel) (hts _ wd_120) rfl hin rfl rfl rfl (Nat.le_of_ble_eq_true rfl) rfl d_StreamWriter_init_16 (fun H locs hw => ?_)
  exact tp_vret () hx hb hr hlocks hw d_StreamWriter_init_19
end
abbrev rm_BlockReader_init : Room := { frames := 1, cells := 0, slots := 0, locals := 12 }
abbrev ws_BlockReader_init : List Cond := .code y_BlockReader_init c_BlockReader_init 3 none :: tpG
section
variable {p : Program} {l : Launch} {e : Env} {s : State} {m : MethodId} {args : Array Value} {below : List Frame} {meth : Method} {c : Code} {A : Nat → Prop} {D : va_G} {cB cI : ClassId} {tM : Nat}
set_option maxHeartbeats 4000000 in
set_option maxRecDepth 100000 in
theorem ct_BlockReader_init {q_br q_b q_d : Nat} (sz : Nat) : tp_Cn (S := Unit) l y_BlockReader_init ws_BlockReader_init rm_BlockReader_init D (tp_ty cB cI) tM [.ref q_br, .ref q_b, .ref q_d] [(q_br, .inr (0, [.null, .null, .int 0, .int 0, .int 0, .long 0, .int 0, .int 0]))] sz (fun _ => [(q_br, .inr (0, [.ref q_b, .ref q_d, .int (0 : Int32), .int (0 : Int32), .int (0 : Int32), .long (0 : Int64), .int (0 : Int32), .int (0 : Int32)]))]) 0 0 := by
  refine Met.ofW (cc := c_BlockReader_init) (maxL := 3) (ret := none) (by decide) rfl ?_
  intro p e s m args below meth c s₁ B hml hv
  obtain ⟨rfl, hv⟩ := hv
  have hw := tp_entry hv
  generalize va_A [(q_br, .inr (0, [.null, .null, .int 0, .int 0, .int 0, .long 0, .int 0, .int 0]))] sz = A at hw ⊢
  have hx := B.exec
  have hb := B.bytes
  have hr := B.returns
  have hts0 := atoms_spec (ws := ws_BlockReader_init) B.pre
  have hts := fun w h => hts0 w (List.mem_cons_of_mem _ h)
  have hown : s.vm.findClass R_BlockReader = some m.cls := findClass_of_methodNamed B.named
  have hlocks := B.notSynchronized
  have hin : meth.name = "<init>" := (name_of_methodNamed B.named B.method).1
  have hF : CallFix p m c c_BlockReader_init 3 s _ tpG R_BlockReader := ⟨hx, hb, hml, hown, hts⟩
  have hF2 : tp_F p m c c_BlockReader_init 3 s _ tpG R_BlockReader meth none := ⟨hF, hr, hlocks⟩
  have hl := lv_entry ([.ref q_br, .ref q_b, .ref q_d]) (n := 3) (Nat.le_of_ble_eq_true rfl)
  rw [lg_entry_eq]
  generalize (lg_sl ([.ref q_br, .ref q_b, .ref q_d]) ++ List.replicate (3 - (lg_sl ([.ref q_br, .ref q_b, .ref q_d])).length) Slot.unset).toArray = ls at hl ⊢
  replace hl : lv_has ls 3 [(0, .ref q_br), (1, .ref q_b), (2, .ref q_d)] := hl
  have hm : some () = some () := rfl
  refine lv_aload_n hx hb d_BlockReader_init_0 rfl (lv_at hl 0 rfl) ?_
  refine W.objInit hx hb hown (hts _ wd_300) (hts _ wd_293) (hts _ wd_294) rfl (by rw [hml]; exact hl.1) rfl d_BlockReader_init_1 (Nat.le_of_ble_eq_true rfl) (Nat.le_of_ble_eq_true rfl) ?_
  refine W.eq (g2 := F0 m 4 ls []) rfl ?_
  refine lv_aload_n hx hb d_BlockReader_init_4 rfl (lv_at hl 0 rfl) ?_
  refine lv_iconst (v := (0 : Int32)) hx hb d_BlockReader_init_5 (by decide +kernel) ?_
  refine tp_put (v := .int (0 : Int32)) (C := R_BlockReader) (T := T_BlockReader) (WS' := [(q_br, .inr (0, [.null, .null, .int (0 : Int32), .int 0, .int 0, .long 0, .int 0, .int 0]))]) hx hb hts fw_BlockReader ty_BlockReader ty_BlockReader_ok nm_BlockReader hown hw 0 rfl rfl 2 (by decide +kernel) (hts _ wd_139) rfl rfl rfl (Nat.le_of_ble_eq_true rfl) rfl d_BlockReader_init_6 (fun H locs hw => ?_)
  refine lv_aload_n hx hb d_BlockReader_init_9 rfl (lv_at hl 0 rfl) ?_
  refine lv_iconst (v := (0 : Int32)) hx hb d_BlockReader_init_10 (by decide +kernel) ?_
  refine tp_put (v := .int (0 : Int32)) (C := R_BlockReader) (T := T_BlockReader) (WS' := [(q_br, .inr (0, [.null, .null, .int (0 : Int32), .int (0 : Int32), .int 0, .long 0, .int 0, .int 0]))]) hx hb hts fw_BlockReader ty_BlockReader ty_BlockReader_ok nm_BlockReader hown hw 0 rfl rfl 3 (by decide +kernel) (hts _ wd_140) rfl rfl rfl (Nat.le_of_ble_eq_true rfl) rfl d_BlockReader_init_11 (fun H locs hw => ?_)
  refine lv_aload_n hx hb d_BlockReader_init_14 rfl (lv_at hl 0 rfl) ?_
  refine lv_iconst (v := (0 : Int32)) hx hb d_BlockReader_init_15 (by decide +kernel) ?_
  refine tp_put (v := .int (0 : Int32)) (C := R_BlockReader) (T := T_BlockReader) (WS' := [(q_br, .inr (0, [.null, .null, .int (0 : Int32), .int (0 : Int32), .int (0 : Int32), .long 0, .int 0, .int 0]))]) hx hb hts fw_BlockReader ty_BlockReader ty_BlockReader_ok nm_BlockReader hown hw 0 rfl rfl 4 (by decide +kernel) (hts _ wd_136) rfl rfl rfl (Nat.le_of_ble_eq_true rfl) rfl d_BlockReader_init_16 (fun H locs hw => ?_)
  refine lv_aload_n hx hb d_BlockReader_init_19 rfl (lv_at hl 0 rfl) ?_
  refine lv_lconst (v := (0 : Int64)) hx hb d_BlockReader_init_20 (by decide +kernel) ?_
  refine tp_put (v := .long (0 : Int64)) (C := R_BlockReader) (T := T_BlockReader) (WS' := [(q_br, .inr (0, [.null, .null, .int (0 : Int32), .int (0 : Int32), .int (0 : Int32), .long (0 : Int64), .int 0, .int 0]))]) hx hb hts fw_BlockReader ty_BlockReader ty_BlockReader_ok nm_BlockReader hown hw 0 rfl rfl 5 (by decide +kernel) (hts _ wd_149) rfl rfl rfl (Nat.le_of_ble_eq_true rfl) rfl d_BlockReader_init_21 (fun H locs hw => ?_)
  refine lv_aload_n hx hb d_BlockReader_init_24 rfl (lv_at hl 0 rfl) ?_
  refine lv_iconst (v := (0 : Int32)) hx hb d_BlockReader_init_25 (by decide +kernel) ?_
  refine tp_put (v := .int (0 : Int32)) (C := R_BlockReader) (T := T_BlockReader) (WS' := [(q_br, .inr (0, [.null, .null, .int (0 : Int32), .int (0 : Int32), .int (0 : Int32), .long (0 : Int64), .int (0 : Int32), .int 0]))]) hx hb hts fw_BlockReader ty_BlockReader ty_BlockReader_ok nm_BlockReader hown hw 0 rfl rfl 6 (by decide +kernel) (hts _ wd_137) rfl rfl rfl (Nat.le_of_ble_eq_true rfl) rfl d_BlockReader_init_26 (fun H locs hw => ?_)
  refine lv_aload_n hx hb d_BlockReader_init_29 rfl (lv_at hl 0 rfl) ?_
  refine lv_iconst (v := (0 : Int32)) hx hb d_BlockReader_init_30 (by decide +kernel) ?_
  refine tp_put (v := .int (0 : Int32)) (C := R_BlockReader) (T := T_BlockReader) (WS' := [(q_br, .inr (0, [.null, .null, .int (0 : Int32), .int (0 : Int32), .int (0 : Int32), .long (0 : Int64), .int (0 : Int32), .int (0 : Int32)]))]) hx hb hts fw_BlockReader ty_BlockReader ty_BlockReader_ok nm_BlockReader hown hw 0 rfl rfl 7 (by decide +kernel) (hts _ wd_138) rfl rfl rfl (Nat.le_of_ble_eq_true rfl) rfl d_BlockReader_init_31 (fun H locs hw => ?_)
  refine lv_aload_n hx hb d_BlockReader_init_34 rfl (lv_at hl 0 rfl) ?_
  refine lv_aload_n hx hb d_BlockReader_init_35 rfl (lv_at hl 1 rfl) ?_
  refine tp_putF (v := .ref q_b) (C := R_BlockReader) (T := T_BlockReader) (WS' := [(q_br, .inr (0, [.ref q_b, .null, .int (0 : Int32), .int (0 : Int32), .int (0 : Int32), .long (0 : Int64), .int (0 : Int32), .int (0 : Int32)]))]) hx hb hts fw_BlockReader ty_BlockReader ty_BlockReader_ok nm_BlockReader hown hw 0 rfl rfl 0 (by decide +kernel) (hts _ wd_141) rfl hin rfl rfl rfl (Nat.le_of_ble_eq_true rfl) rfl d_BlockReader_init_36 (fun H locs hw => ?_)
  refine lv_aload_n hx hb d_BlockReader_init_39 rfl (lv_at hl 0 rfl) ?_
  refine lv_aload_n hx hb d_BlockReader_init_40 rfl (lv_at hl 2 rfl) ?_
  refine tp_putF (v := .ref q_d) (C := R_BlockReader) (T := T_BlockReader) (WS' := [(q_br, .inr (0, [.ref q_b, .ref q_d, .int (0 : Int32), .int (0 : Int32), .int (0 : Int32), .long (0 : Int64), .int (0 : Int32), .int (0 : Int32)]))]) hx hb hts fw_BlockReader ty_BlockReader ty_BlockReader_ok nm_BlockReader hown hw 0 rfl rfl 1 (by decide +kernel) (hts _ wd_135) rfl hin rfl rfl rfl (Nat.le_of_ble_eq_true rfl) rfl d_BlockReader_init_41 (fun H locs hw => ?_)
  exact tp_vret () hx hb hr hlocks hw d_BlockReader_init_44
end
abbrev rm_StreamReader_init : Room := { frames := 1, cells := 0, slots := 0, locals := 12 }
abbrev ws_StreamReader_init : List Cond := .code y_StreamReader_init c_StreamReader_init 4 none :: tpG
section
variable {p : Program} {l : Launch} {e : Env} {s : State} {m : MethodId} {args : Array Value} {below : List Frame} {meth : Method} {c : Code} {A : Nat → Prop} {D : va_G} {cB cI : ClassId} {tM : Nat}
set_option maxHeartbeats 4000000 in
set_option maxRecDepth 100000 in
theorem ct_StreamReader_init {q_sr q_b q_d q_g : Nat} (sz : Nat) : tp_Cn (S := Unit) l y_StreamReader_init ws_StreamReader_init rm_StreamReader_init D (tp_ty cB cI) tM [.ref q_sr, .ref q_b, .ref q_d, .ref q_g] [(q_sr, .inr (4, [.null, .null, .null, .int 0, .int 0, .int 0, .int 0]))] sz (fun _ => [(q_sr, .inr (4, [.ref q_b, .ref q_d, .ref q_g, .int (0 : Int32), .int (0 : Int32), .int (0 : Int32), .int (0 : Int32)]))]) 0 0 := by
  refine Met.ofW (cc := c_StreamReader_init) (maxL := 4) (ret := none) (by decide) rfl ?_
  intro p e s m args below meth c s₁ B hml hv
  obtain ⟨rfl, hv⟩ := hv
  have hw := tp_entry hv
  generalize va_A [(q_sr, .inr (4, [.null, .null, .null, .int 0, .int 0, .int 0, .int 0]))] sz = A at hw ⊢
  have hx := B.exec
  have hb := B.bytes
  have hr := B.returns
  have hts0 := atoms_spec (ws := ws_StreamReader_init) B.pre
  have hts := fun w h => hts0 w (List.mem_cons_of_mem _ h)
  have hown : s.vm.findClass R_StreamReader = some m.cls := findClass_of_methodNamed B.named
  have hlocks := B.notSynchronized
  have hin : meth.name = "<init>" := (name_of_methodNamed B.named B.method).1
  have hF : CallFix p m c c_StreamReader_init 4 s _ tpG R_StreamReader := ⟨hx, hb, hml, hown, hts⟩
  have hF2 : tp_F p m c c_StreamReader_init 4 s _ tpG R_StreamReader meth none := ⟨hF, hr, hlocks⟩
  have hl := lv_entry ([.ref q_sr, .ref q_b, .ref q_d, .ref q_g]) (n := 4) (Nat.le_of_ble_eq_true rfl)
  rw [lg_entry_eq]
  generalize (lg_sl ([.ref q_sr, .ref q_b, .ref q_d, .ref q_g]) ++ List.replicate (4 - (lg_sl ([.ref q_sr, .ref q_b, .ref q_d, .ref q_g])).length) Slot.unset).toArray = ls at hl ⊢
  replace hl : lv_has ls 4 [(0, .ref q_sr), (1, .ref q_b), (2, .ref q_d), (3, .ref q_g)] := hl
  have hm : some () = some () := rfl
  refine lv_aload_n hx hb d_StreamReader_init_0 rfl (lv_at hl 0 rfl) ?_
  refine W.objInit hx hb hown (hts _ wd_301) (hts _ wd_293) (hts _ wd_294) rfl (by rw [hml]; exact hl.1) rfl d_StreamReader_init_1 (Nat.le_of_ble_eq_true rfl) (Nat.le_of_ble_eq_true rfl) ?_
  refine W.eq (g2 := F0 m 4 ls []) rfl ?_
  refine lv_aload_n hx hb d_StreamReader_init_4 rfl (lv_at hl 0 rfl) ?_
  refine lv_iconst (v := (0 : Int32)) hx hb d_StreamReader_init_5 (by decide +kernel) ?_
  refine tp_put (v := .int (0 : Int32)) (C := R_StreamReader) (T := T_StreamReader) (WS' := [(q_sr, .inr (4, [.null, .null, .null, .int (0 : Int32), .int 0, .int 0, .int 0]))]) hx hb hts fw_StreamReader ty_StreamReader ty_StreamReader_ok nm_StreamReader hown hw 0 rfl rfl 3 (by decide +kernel) (hts _ wd_185) rfl rfl rfl (Nat.le_of_ble_eq_true rfl) rfl d_StreamReader_init_6 (fun H locs hw => ?_)
  refine lv_aload_n hx hb d_StreamReader_init_9 rfl (lv_at hl 0 rfl) ?_
  refine lv_iconst (v := (0 : Int32)) hx hb d_StreamReader_init_10 (by decide +kernel) ?_
  refine tp_put (v := .int (0 : Int32)) (C := R_StreamReader) (T := T_StreamReader) (WS' := [(q_sr, .inr (4, [.null, .null, .null, .int (0 : Int32), .int (0 : Int32), .int 0, .int 0]))]) hx hb hts fw_StreamReader ty_StreamReader ty_StreamReader_ok nm_StreamReader hown hw 0 rfl rfl 4 (by decide +kernel) (hts _ wd_186) rfl rfl rfl (Nat.le_of_ble_eq_true rfl) rfl d_StreamReader_init_11 (fun H locs hw => ?_)
  refine lv_aload_n hx hb d_StreamReader_init_14 rfl (lv_at hl 0 rfl) ?_
  refine lv_iconst (v := (0 : Int32)) hx hb d_StreamReader_init_15 (by decide +kernel) ?_
  refine tp_put (v := .int (0 : Int32)) (C := R_StreamReader) (T := T_StreamReader) (WS' := [(q_sr, .inr (4, [.null, .null, .null, .int (0 : Int32), .int (0 : Int32), .int (0 : Int32), .int 0]))]) hx hb hts fw_StreamReader ty_StreamReader ty_StreamReader_ok nm_StreamReader hown hw 0 rfl rfl 5 (by decide +kernel) (hts _ wd_183) rfl rfl rfl (Nat.le_of_ble_eq_true rfl) rfl d_StreamReader_init_16 (fun H locs hw => ?_)
  refine lv_aload_n hx hb d_StreamReader_init_19 rfl (lv_at hl 0 rfl) ?_
  refine lv_iconst (v := (0 : Int32)) hx hb d_StreamReader_init_20 (by decide +kernel) ?_
  refine tp_put (v := .int (0 : Int32)) (C := R_StreamReader) (T := T_StreamReader) (WS' := [(q_sr, .inr (4, [.null, .null, .null, .int (0 : Int32), .int (0 : Int32), .int (0 : Int32), .int (0 : Int32)]))]) hx hb hts fw_StreamReader ty_StreamReader ty_StreamReader_ok nm_StreamReader hown hw 0 rfl rfl 6 (by decide +kernel) (hts _ wd_184) rfl rfl rfl (Nat.le_of_ble_eq_true rfl) rfl d_StreamReader_init_21 (fun H locs hw => ?_)
  refine lv_aload_n hx hb d_StreamReader_init_24 rfl (lv_at hl 0 rfl) ?_
  refine lv_aload_n hx hb d_StreamReader_init_25 rfl (lv_at hl 1 rfl) ?_
  refine tp_putF (v := .ref q_b) (C := R_StreamReader) (T := T_StreamReader) (WS' := [(q_sr, .inr (4, [.ref q_b, .null, .null, .int (0 : Int32), .int (0 : Int32), .int (0 : Int32), .int (0 : Int32)]))]) hx hb hts fw_StreamReader ty_StreamReader ty_StreamReader_ok nm_StreamReader hown hw 0 rfl rfl 0 (by decide +kernel) (hts _ wd_187) rfl hin rfl rfl rfl (Nat.le_of_ble_eq_true rfl) rfl d_StreamReader_init_26 (fun H locs hw => ?_)
  refine lv_aload_n hx hb d_StreamReader_init_29 rfl (lv_at hl 0 rfl) ?_
  refine lv_aload_n hx hb d_StreamReader_init_30 rfl (lv_at hl 2 rfl) ?_
  refine tp_putF (v := .ref q_d) (C := R_StreamReader) (T := T_StreamReader) (WS' := [(q_sr, .inr (4, [.ref q_b, .ref q_d, .null, .int (0 : Int32), .int (0 : Int32), .int (0 : Int32), .int (0 : Int32)]))]) hx hb hts fw_StreamReader ty_StreamReader ty_StreamReader_ok nm_StreamReader hown hw 0 rfl rfl 1 (by decide +kernel) (hts _ wd_196) rfl hin rfl rfl rfl (Nat.le_of_ble_eq_true rfl) rfl d_StreamReader_init_31 (fun H locs hw => ?_)
  refine lv_aload_n hx hb d_StreamReader_init_34 rfl (lv_at hl 0 rfl) ?_
  refine lv_aload_n hx hb d_StreamReader_init_35 rfl (lv_at hl 3 rfl) ?_
  refine tp_putF (v := .ref q_g) (C := R_StreamReader) (T := T_StreamReader) (WS' := [(q_sr, .inr (4, [.ref q_b, .ref q_d, .ref q_g, .int (0 : Int32), .int (0 : Int32), .int (0 : Int32), .int (0 : Int32)]))]) hx hb hts fw_StreamReader ty_StreamReader ty_StreamReader_ok nm_StreamReader hown hw 0 rfl rfl 2 (by decide +kernel) (hts _ wd_195) rfl hin rfl rfl rfl (Nat.le_of_ble_eq_true rfl) rfl d_StreamReader_init_36 (fun H locs hw => ?_)
  exact tp_vret () hx hb hr hlocks hw d_StreamReader_init_39
end
abbrev rm_TP_init : Room := { frames := 2, cells := 13, slots := 42082, locals := 35 }
abbrev ws_TP_init : List Cond := .code y_TP_init c_TP_init 1 none :: tpG
section
variable {p : Program} {l : Launch} {e : Env} {s : State} {m : MethodId} {args : Array Value} {below : List Frame} {meth : Method} {c : Code} {A : Nat → Prop} {D : va_G} {cB cI : ClassId} {tM : Nat}
set_option maxHeartbeats 4000000 in
set_option maxRecDepth 100000 in
theorem ct_TP_init {q_h : Nat} (sz : Nat) : tp_Cn (S := Nat × Nat × Nat × Nat × Nat × Nat × Nat × Nat × Nat × Nat × Nat × Nat × Nat) l y_TP_init ws_TP_init rm_TP_init D (tp_ty cB cI) tM [.ref q_h] [(q_h, .inr (6, [.null, .null, .null, .null, .null, .null, .null, .null, .int 0]))] sz (fun u => [(q_h, .inr (6, [.ref u.1, .ref u.2.2.1, .ref u.2.2.2.2.1, .ref u.2.2.2.2.2.2.1, .ref u.2.2.2.2.2.2.2.2.2.1, .ref u.2.2.2.2.2.2.2.2.2.2.1, .ref u.2.2.2.2.2.2.2.2.2.2.2.1, .ref u.2.2.2.2.2.2.2.2.2.2.2.2, .int (0 : Int32)])), (u.1, .inr (3, [.ref u.2.1, .int (0 : Int32)])), (u.2.1, .inl (cB, 10000, .inl (fun _ => 0))), (u.2.2.1, .inr (3, [.ref u.2.2.2.1, .int (0 : Int32)])), (u.2.2.2.1, .inl (cB, 10000, .inl (fun _ => 0))), (u.2.2.2.2.1, .inr (3, [.ref u.2.2.2.2.2.1, .int (0 : Int32)])), (u.2.2.2.2.2.1, .inl (cB, 10000, .inl (fun _ => 0))), (u.2.2.2.2.2.2.1, .inr (2, [.ref u.1, .ref u.2.2.2.2.2.2.2.1, .ref u.2.2.2.2.2.2.2.2.1, .int (0 : Int32), .int (0 : Int32), .int (0 : Int32), .int (0 : Int32)])), (u.2.2.2.2.2.2.2.1, .inl (cI, 10000, .inl (fun _ => 0))), (u.2.2.2.2.2.2.2.2.1, .inl (cI, 2048, .inl (fun _ => 0))), (u.2.2.2.2.2.2.2.2.2.1, .inr (1, [.ref u.1, .ref u.2.2.2.2.1, .ref u.2.2.2.2.2.2.1])), (u.2.2.2.2.2.2.2.2.2.2.1, .inr (5, [.ref u.1, .ref u.2.2.2.2.1, .ref u.2.2.2.2.2.2.2.2.2.1])), (u.2.2.2.2.2.2.2.2.2.2.2.1, .inr (0, [.ref u.1, .ref u.2.2.2.2.1, .int (0 : Int32), .int (0 : Int32), .int (0 : Int32), .long (0 : Int64), .int (0 : Int32), .int (0 : Int32)])), (u.2.2.2.2.2.2.2.2.2.2.2.2, .inr (4, [.ref u.1, .ref u.2.2.2.2.1, .ref u.2.2.2.2.2.2.2.2.2.2.2.1, .int (0 : Int32), .int (0 : Int32), .int (0 : Int32), .int (0 : Int32)]))]) 13 42082 := by
  refine Met.ofW (cc := c_TP_init) (maxL := 1) (ret := none) (by decide) rfl ?_
  intro p e s m args below meth c s₁ B hml hv
  obtain ⟨rfl, hv⟩ := hv
  have hw := tp_entry hv
  generalize va_A [(q_h, .inr (6, [.null, .null, .null, .null, .null, .null, .null, .null, .int 0]))] sz = A at hw ⊢
  have hx := B.exec
  have hb := B.bytes
  have hr := B.returns
  have hts0 := atoms_spec (ws := ws_TP_init) B.pre
  have hts := fun w h => hts0 w (List.mem_cons_of_mem _ h)
  have hown : s.vm.findClass R_TP = some m.cls := findClass_of_methodNamed B.named
  have hlocks := B.notSynchronized
  have hin : meth.name = "<init>" := (name_of_methodNamed B.named B.method).1
  have hF : CallFix p m c c_TP_init 1 s _ tpG R_TP := ⟨hx, hb, hml, hown, hts⟩
  have hF2 : tp_F p m c c_TP_init 1 s _ tpG R_TP meth none := ⟨hF, hr, hlocks⟩
  have hl := lv_entry ([.ref q_h]) (n := 1) (Nat.le_of_ble_eq_true rfl)
  rw [lg_entry_eq]
  generalize (lg_sl ([.ref q_h]) ++ List.replicate (1 - (lg_sl ([.ref q_h])).length) Slot.unset).toArray = ls at hl ⊢
  replace hl : lv_has ls 1 [(0, .ref q_h)] := hl
  have hm : some () = some () := rfl
  refine lv_aload_n hx hb d_TP_init_0 rfl (lv_at hl 0 rfl) ?_
  refine W.objInit hx hb hown (hts _ wd_302) (hts _ wd_293) (hts _ wd_294) rfl (by rw [hml]; exact hl.1) rfl d_TP_init_1 (Nat.le_of_ble_eq_true rfl) (Nat.le_of_ble_eq_true rfl) ?_
  refine W.eq (g2 := F0 m 4 ls []) rfl ?_
  refine lv_aload_n hx hb d_TP_init_4 rfl (lv_at hl 0 rfl) ?_
  refine tp_new (ci := 3) (fs := [.null, .int 0]) (C := R_Row) (T := T_Row) (N := 2) hx hb hts fw_Row ty_Row ty_Row_ok hown (hts _ wd_303) (hts _ wd_304) (hts _ wd_3) hw rfl (fun j hj => by rcases (show j = 0 ∨ j = 1 by omega) with rfl | rfl <;> rfl) (Nat.le_of_ble_eq_true rfl) (Nat.le_of_ble_eq_true rfl) d_TP_init_5 (fun q_n5 H hw => ?_)
  replace hw : tp_Wd D (tp_ty cB cI) tM A s _ _ [(q_h, .inr (6, [.null, .null, .null, .null, .null, .null, .null, .null, .int 0])), (q_n5, .inr (3, [.null, .int 0]))] := hw
  refine lv_dup hx hb d_TP_init_8 rfl ?_
  refine tp_calln (wr := [(q_h, .inr (6, [.null, .null, .null, .null, .null, .null, .null, .null, .int 0]))]) (WSg := fun (u : Nat) => [(q_h, .inr (6, [.null, .null, .null, .null, .null, .null, .null, .null, .int 0])), (q_n5, .inr (3, [.ref u, .int (0 : Int32)])), (u, .inl (cB, 10000, .inl (fun _ => 0)))]) (va_runIN (As := []) (rest := [.ref q_n5, .ref q_h]) hF (ct_Row_init (l := l) (D := D) (cB := cB) (cI := cI) (tM := tM) (q_a := q_n5) _) ⟨va_cnB 0 hts (tpG_W wd_305) rfl rfl rfl (hw.2.2.2.2.1 _ nw_16) (hts _ wd_3) yd_Row_init ⟨Nat.le_of_ble_eq_true rfl, Nat.le_of_ble_eq_true rfl⟩, rfl, hts _ wd_306⟩ ⟨tp_blind, tp_pre hw [1] rfl rfl⟩ rfl rfl hl.1 rfl (lv_room (Nat.le_of_ble_eq_true rfl)) d_TP_init_9 ⟨Nat.le_of_ble_eq_true rfl, Nat.le_of_ble_eq_true rfl⟩) hw [1] [0] [0, 1, 2] rfl rfl rfl (by decide) (fun _ => rfl) rfl (fun u H locs hw => ?_)
  obtain ⟨q_n9_n8, hu⟩ : ∃ z, z = u := ⟨_, rfl⟩
  subst hu
  replace hw : tp_Wd D (tp_ty cB cI) tM A s _ _ [(q_h, .inr (6, [.null, .null, .null, .null, .null, .null, .null, .null, .int 0])), (q_n5, .inr (3, [.ref q_n9_n8, .int (0 : Int32)])), (q_n9_n8, .inl (cB, 10000, .inl (fun _ => 0)))] := hw
  refine tp_putF (v := .ref q_n5) (C := R_TP) (T := T_TP) (WS' := [(q_h, .inr (6, [.ref q_n5, .null, .null, .null, .null, .null, .null, .null, .int 0])), (q_n5, .inr (3, [.ref q_n9_n8, .int (0 : Int32)])), (q_n9_n8, .inl (cB, 10000, .inl (fun _ => 0)))]) hx hb hts fw_TP ty_TP ty_TP_ok nm_TP hown hw 0 rfl rfl 0 (by decide +kernel) (hts _ wd_233) rfl hin rfl rfl rfl (Nat.le_of_ble_eq_true rfl) rfl d_TP_init_12 (fun H locs hw => ?_)
  refine lv_aload_n hx hb d_TP_init_15 rfl (lv_at hl 0 rfl) ?_
  refine tp_new (ci := 3) (fs := [.null, .int 0]) (C := R_Row) (T := T_Row) (N := 2) hx hb hts fw_Row ty_Row ty_Row_ok hown (hts _ wd_303) (hts _ wd_304) (hts _ wd_3) hw rfl (fun j hj => by rcases (show j = 0 ∨ j = 1 by omega) with rfl | rfl <;> rfl) (Nat.le_of_ble_eq_true rfl) (Nat.le_of_ble_eq_true rfl) d_TP_init_16 (fun q_n16 H hw => ?_)
  replace hw : tp_Wd D (tp_ty cB cI) tM A s _ _ [(q_h, .inr (6, [.ref q_n5, .null, .null, .null, .null, .null, .null, .null, .int 0])), (q_n5, .inr (3, [.ref q_n9_n8, .int (0 : Int32)])), (q_n9_n8, .inl (cB, 10000, .inl (fun _ => 0))), (q_n16, .inr (3, [.null, .int 0]))] := hw
  refine lv_dup hx hb d_TP_init_19 rfl ?_
  refine tp_calln (wr := [(q_h, .inr (6, [.ref q_n5, .null, .null, .null, .null, .null, .null, .null, .int 0])), (q_n5, .inr (3, [.ref q_n9_n8, .int (0 : Int32)])), (q_n9_n8, .inl (cB, 10000, .inl (fun _ => 0)))]) (WSg := fun (u : Nat) => [(q_h, .inr (6, [.ref q_n5, .null, .null, .null, .null, .null, .null, .null, .int 0])), (q_n5, .inr (3, [.ref q_n9_n8, .int (0 : Int32)])), (q_n9_n8, .inl (cB, 10000, .inl (fun _ => 0))), (q_n16, .inr (3, [.ref u, .int (0 : Int32)])), (u, .inl (cB, 10000, .inl (fun _ => 0)))]) (va_runIN (As := []) (rest := [.ref q_n16, .ref q_h]) hF (ct_Row_init (l := l) (D := D) (cB := cB) (cI := cI) (tM := tM) (q_a := q_n16) _) ⟨va_cnB 0 hts (tpG_W wd_305) rfl rfl rfl (hw.2.2.2.2.1 _ nw_16) (hts _ wd_3) yd_Row_init ⟨Nat.le_of_ble_eq_true rfl, Nat.le_of_ble_eq_true rfl⟩, rfl, hts _ wd_306⟩ ⟨tp_blind, tp_pre hw [3] rfl rfl⟩ rfl rfl hl.1 rfl (lv_room (Nat.le_of_ble_eq_true rfl)) d_TP_init_20 ⟨Nat.le_of_ble_eq_true rfl, Nat.le_of_ble_eq_true rfl⟩) hw [3] [0, 1, 2] [0, 1, 2, 3, 4] rfl rfl rfl (by decide) (fun _ => rfl) rfl (fun u H locs hw => ?_)
  obtain ⟨q_n20_n8, hu⟩ : ∃ z, z = u := ⟨_, rfl⟩
  subst hu
  replace hw : tp_Wd D (tp_ty cB cI) tM A s _ _ [(q_h, .inr (6, [.ref q_n5, .null, .null, .null, .null, .null, .null, .null, .int 0])), (q_n5, .inr (3, [.ref q_n9_n8, .int (0 : Int32)])), (q_n9_n8, .inl (cB, 10000, .inl (fun _ => 0))), (q_n16, .inr (3, [.ref q_n20_n8, .int (0 : Int32)])), (q_n20_n8, .inl (cB, 10000, .inl (fun _ => 0)))] := hw
  refine tp_putF (v := .ref q_n16) (C := R_TP) (T := T_TP) (WS' := [(q_h, .inr (6, [.ref q_n5, .ref q_n16, .null, .null, .null, .null, .null, .null, .int 0])), (q_n5, .inr (3, [.ref q_n9_n8, .int (0 : Int32)])), (q_n9_n8, .inl (cB, 10000, .inl (fun _ => 0))), (q_n16, .inr (3, [.ref q_n20_n8, .int (0 : Int32)])), (q_n20_n8, .inl (cB, 10000, .inl (fun _ => 0)))]) hx hb hts fw_TP ty_TP ty_TP_ok nm_TP hown hw 0 rfl rfl 1 (by decide +kernel) (hts _ wd_228) rfl hin rfl rfl rfl (Nat.le_of_ble_eq_true rfl) rfl d_TP_init_23 (fun H locs hw => ?_)
  refine lv_aload_n hx hb d_TP_init_26 rfl (lv_at hl 0 rfl) ?_
  refine tp_new (ci := 3) (fs := [.null, .int 0]) (C := R_Row) (T := T_Row) (N := 2) hx hb hts fw_Row ty_Row ty_Row_ok hown (hts _ wd_303) (hts _ wd_304) (hts _ wd_3) hw rfl (fun j hj => by rcases (show j = 0 ∨ j = 1 by omega) with rfl | rfl <;> rfl) (Nat.le_of_ble_eq_true rfl) (Nat.le_of_ble_eq_true rfl) d_TP_init_27 (fun q_n27 H hw => ?_)
  replace hw : tp_Wd D (tp_ty cB cI) tM A s _ _ [(q_h, .inr (6, [.ref q_n5, .ref q_n16, .null, .null, .null, .null, .null, .null, .int 0])), (q_n5, .inr (3, [.ref q_n9_n8, .int (0 : Int32)])), (q_n9_n8, .inl (cB, 10000, .inl (fun _ => 0))), (q_n16, .inr (3, [.ref q_n20_n8, .int (0 : Int32)])), (q_n20_n8, .inl (cB, 10000, .inl (fun _ => 0))), (q_n27, .inr (3, [.null, .int 0]))] := hw
  refine lv_dup hx hb d_TP_init_30 rfl ?_
  refine tp_calln (wr := [(q_h, .inr (6, [.ref q_n5, .ref q_n16, .null, .null, .null, .null, .null, .null, .int 0])), (q_n5, .inr (3, [.ref q_n9_n8, .int (0 : Int32)])), (q_n9_n8, .inl (cB, 10000, .inl (fun _ => 0))), (q_n16, .inr (3, [.ref q_n20_n8, .int (0 : Int32)])), (q_n20_n8, .inl (cB, 10000, .inl (fun _ => 0)))]) (WSg := fun (u : Nat) => [(q_h, .inr (6, [.ref q_n5, .ref q_n16, .null, .null, .null, .null, .null, .null, .int 0])), (q_n5, .inr (3, [.ref q_n9_n8, .int (0 : Int32)])), (q_n9_n8, .inl (cB, 10000, .inl (fun _ => 0))), (q_n16, .inr (3, [.ref q_n20_n8, .int (0 : Int32)])), (q_n20_n8, .inl (cB, 10000, .inl (fun _ => 0))), (q_n27, .inr (3, [.ref u, .int (0 : Int32)])), (u, .inl (cB, 10000, .inl (fun _ => 0)))]) (va_runIN (As := []) (rest := [.ref q_n27, .ref q_h]) hF (ct_Row_init (l := l) (D := D) (cB := cB) (cI := cI) (tM := tM) (q_a := q_n27) _) ⟨va_cnB 0 hts (tpG_W wd_305) rfl rfl rfl (hw.2.2.2.2.1 _ nw_16) (hts _ wd_3) yd_Row_init ⟨Nat.le_of_ble_eq_true rfl, Nat.le_of_ble_eq_true rfl⟩, rfl, hts _ wd_306⟩ ⟨tp_blind, tp_pre hw [5] rfl rfl⟩ rfl rfl hl.1 rfl (lv_room (Nat.le_of_ble_eq_true rfl)) d_TP_init_31 ⟨Nat.le_of_ble_eq_true rfl, Nat.le_of_ble_eq_true rfl⟩) hw [5] [0, 1, 2, 3, 4] [0, 1, 2, 3, 4, 5, 6] rfl rfl rfl (by decide) (fun _ => rfl) rfl (fun u H locs hw => ?_)
  obtain ⟨q_n31_n8, hu⟩ : ∃ z, z = u := ⟨_, rfl⟩
  subst hu
  replace hw : tp_Wd D (tp_ty cB cI) tM A s _ _ [(q_h, .inr (6, [.ref q_n5, .ref q_n16, .null, .null, .null, .null, .null, .null, .int 0])), (q_n5, .inr (3, [.ref q_n9_n8, .int (0 : Int32)])), (q_n9_n8, .inl (cB, 10000, .inl (fun _ => 0))), (q_n16, .inr (3, [.ref q_n20_n8, .int (0 : Int32)])), (q_n20_n8, .inl (cB, 10000, .inl (fun _ => 0))), (q_n27, .inr (3, [.ref q_n31_n8, .int (0 : Int32)])), (q_n31_n8, .inl (cB, 10000, .inl (fun _ => 0)))] := hw
  refine tp_putF (v := .ref q_n27) (C := R_TP) (T := T_TP) (WS' := [(q_h, .inr (6, [.ref q_n5, .ref q_n16, .ref q_n27, .null, .null, .null, .null, .null, .int 0])), (q_n5, .inr (3, [.ref q_n9_n8, .int (0 : Int32)])), (q_n9_n8, .inl (cB, 10000, .inl (fun _ => 0))), (q_n16, .inr (3, [.ref q_n20_n8, .int (0 : Int32)])), (q_n20_n8, .inl (cB, 10000, .inl (fun _ => 0))), (q_n27, .inr (3, [.ref q_n31_n8, .int (0 : Int32)])), (q_n31_n8, .inl (cB, 10000, .inl (fun _ => 0)))]) hx hb hts fw_TP ty_TP ty_TP_ok nm_TP hown hw 0 rfl rfl 2 (by decide +kernel) (hts _ wd_226) rfl hin rfl rfl rfl (Nat.le_of_ble_eq_true rfl) rfl d_TP_init_34 (fun H locs hw => ?_)
  refine lv_aload_n hx hb d_TP_init_37 rfl (lv_at hl 0 rfl) ?_
  refine tp_new (ci := 2) (fs := [.null, .null, .null, .int 0, .int 0, .int 0, .int 0]) (C := R_Matches) (T := T_Matches) (N := 7) hx hb hts fw_Matches ty_Matches ty_Matches_ok hown (hts _ wd_307) (hts _ wd_308) (hts _ wd_42) hw rfl (fun j hj => by rcases (show j = 0 ∨ j = 1 ∨ j = 2 ∨ j = 3 ∨ j = 4 ∨ j = 5 ∨ j = 6 by omega) with rfl | rfl | rfl | rfl | rfl | rfl | rfl <;> rfl) (Nat.le_of_ble_eq_true rfl) (Nat.le_of_ble_eq_true rfl) d_TP_init_38 (fun q_n38 H hw => ?_)
  replace hw : tp_Wd D (tp_ty cB cI) tM A s _ _ [(q_h, .inr (6, [.ref q_n5, .ref q_n16, .ref q_n27, .null, .null, .null, .null, .null, .int 0])), (q_n5, .inr (3, [.ref q_n9_n8, .int (0 : Int32)])), (q_n9_n8, .inl (cB, 10000, .inl (fun _ => 0))), (q_n16, .inr (3, [.ref q_n20_n8, .int (0 : Int32)])), (q_n20_n8, .inl (cB, 10000, .inl (fun _ => 0))), (q_n27, .inr (3, [.ref q_n31_n8, .int (0 : Int32)])), (q_n31_n8, .inl (cB, 10000, .inl (fun _ => 0))), (q_n38, .inr (2, [.null, .null, .null, .int 0, .int 0, .int 0, .int 0]))] := hw
  refine lv_dup hx hb d_TP_init_41 rfl ?_
  refine lv_aload_n hx hb d_TP_init_42 rfl (lv_at hl 0 rfl) ?_
  refine tp_get (v := .ref q_n5) (C := R_TP) (T := T_TP) hx hb hts fw_TP hown hw 0 rfl rfl 0 (by decide +kernel) (hts _ wd_233) rfl d_TP_init_43 ?_
  refine tp_calln (wr := [(q_h, .inr (6, [.ref q_n5, .ref q_n16, .ref q_n27, .null, .null, .null, .null, .null, .int 0])), (q_n5, .inr (3, [.ref q_n9_n8, .int (0 : Int32)])), (q_n9_n8, .inl (cB, 10000, .inl (fun _ => 0))), (q_n16, .inr (3, [.ref q_n20_n8, .int (0 : Int32)])), (q_n20_n8, .inl (cB, 10000, .inl (fun _ => 0))), (q_n27, .inr (3, [.ref q_n31_n8, .int (0 : Int32)])), (q_n31_n8, .inl (cB, 10000, .inl (fun _ => 0)))]) (WSg := fun (u : Nat × Nat) => [(q_h, .inr (6, [.ref q_n5, .ref q_n16, .ref q_n27, .null, .null, .null, .null, .null, .int 0])), (q_n5, .inr (3, [.ref q_n9_n8, .int (0 : Int32)])), (q_n9_n8, .inl (cB, 10000, .inl (fun _ => 0))), (q_n16, .inr (3, [.ref q_n20_n8, .int (0 : Int32)])), (q_n20_n8, .inl (cB, 10000, .inl (fun _ => 0))), (q_n27, .inr (3, [.ref q_n31_n8, .int (0 : Int32)])), (q_n31_n8, .inl (cB, 10000, .inl (fun _ => 0))), (q_n38, .inr (2, [.ref q_n5, .ref u.1, .ref u.2, .int (0 : Int32), .int (0 : Int32), .int (0 : Int32), .int (0 : Int32)])), (u.1, .inl (cI, 10000, .inl (fun _ => 0))), (u.2, .inl (cI, 2048, .inl (fun _ => 0)))]) (va_runI (As := [.ref q_n5]) (rest := [.ref q_n38, .ref q_h]) hF (ct_Matches_init (l := l) (D := D) (cB := cB) (cI := cI) (tM := tM) (q_mt := q_n38) (q_b := q_n5) _) (cwI 1 hts (tpG_W wd_309) rfl rfl rfl (hts _ wd_42) (hts _ wd_310) (hts _ wd_311) rfl yd_Matches_init ⟨Nat.le_of_ble_eq_true rfl, Nat.le_of_ble_eq_true rfl⟩) ⟨tp_blind, tp_pre hw [7] rfl rfl⟩ rfl rfl hl.1 rfl (lv_room (Nat.le_of_ble_eq_true rfl)) d_TP_init_46 ⟨Nat.le_of_ble_eq_true rfl, Nat.le_of_ble_eq_true rfl⟩) hw [7] [0, 1, 2, 3, 4, 5, 6] [0, 1, 2, 3, 4, 5, 6, 7, 8, 9] rfl rfl rfl (by decide) (fun _ => rfl) rfl (fun u H locs hw => ?_)
  obtain ⟨q_n46_n8, q_n46_n17⟩ := u
  replace hw : tp_Wd D (tp_ty cB cI) tM A s _ _ [(q_h, .inr (6, [.ref q_n5, .ref q_n16, .ref q_n27, .null, .null, .null, .null, .null, .int 0])), (q_n5, .inr (3, [.ref q_n9_n8, .int (0 : Int32)])), (q_n9_n8, .inl (cB, 10000, .inl (fun _ => 0))), (q_n16, .inr (3, [.ref q_n20_n8, .int (0 : Int32)])), (q_n20_n8, .inl (cB, 10000, .inl (fun _ => 0))), (q_n27, .inr (3, [.ref q_n31_n8, .int (0 : Int32)])), (q_n31_n8, .inl (cB, 10000, .inl (fun _ => 0))), (q_n38, .inr (2, [.ref q_n5, .ref q_n46_n8, .ref q_n46_n17, .int (0 : Int32), .int (0 : Int32), .int (0 : Int32), .int (0 : Int32)])), (q_n46_n8, .inl (cI, 10000, .inl (fun _ => 0))), (q_n46_n17, .inl (cI, 2048, .inl (fun _ => 0)))] := hw
  refine tp_putF (v := .ref q_n38) (C := R_TP) (T := T_TP) (WS' := [(q_h, .inr (6, [.ref q_n5, .ref q_n16, .ref q_n27, .ref q_n38, .null, .null, .null, .null, .int 0])), (q_n5, .inr (3, [.ref q_n9_n8, .int (0 : Int32)])), (q_n9_n8, .inl (cB, 10000, .inl (fun _ => 0))), (q_n16, .inr (3, [.ref q_n20_n8, .int (0 : Int32)])), (q_n20_n8, .inl (cB, 10000, .inl (fun _ => 0))), (q_n27, .inr (3, [.ref q_n31_n8, .int (0 : Int32)])), (q_n31_n8, .inl (cB, 10000, .inl (fun _ => 0))), (q_n38, .inr (2, [.ref q_n5, .ref q_n46_n8, .ref q_n46_n17, .int (0 : Int32), .int (0 : Int32), .int (0 : Int32), .int (0 : Int32)])), (q_n46_n8, .inl (cI, 10000, .inl (fun _ => 0))), (q_n46_n17, .inl (cI, 2048, .inl (fun _ => 0)))]) hx hb hts fw_TP ty_TP ty_TP_ok nm_TP hown hw 0 rfl rfl 3 (by decide +kernel) (hts _ wd_242) rfl hin rfl rfl rfl (Nat.le_of_ble_eq_true rfl) rfl d_TP_init_49 (fun H locs hw => ?_)
  refine lv_aload_n hx hb d_TP_init_52 rfl (lv_at hl 0 rfl) ?_
  refine tp_new (ci := 1) (fs := [.null, .null, .null]) (C := R_BlockWriter) (T := T_BlockWriter) (N := 3) hx hb hts fw_BlockWriter ty_BlockWriter ty_BlockWriter_ok hown (hts _ wd_312) (hts _ wd_313) (hts _ wd_97) hw rfl (fun j hj => by rcases (show j = 0 ∨ j = 1 ∨ j = 2 by omega) with rfl | rfl | rfl <;> rfl) (Nat.le_of_ble_eq_true rfl) (Nat.le_of_ble_eq_true rfl) d_TP_init_53 (fun q_n53 H hw => ?_)
  replace hw : tp_Wd D (tp_ty cB cI) tM A s _ _ [(q_h, .inr (6, [.ref q_n5, .ref q_n16, .ref q_n27, .ref q_n38, .null, .null, .null, .null, .int 0])), (q_n5, .inr (3, [.ref q_n9_n8, .int (0 : Int32)])), (q_n9_n8, .inl (cB, 10000, .inl (fun _ => 0))), (q_n16, .inr (3, [.ref q_n20_n8, .int (0 : Int32)])), (q_n20_n8, .inl (cB, 10000, .inl (fun _ => 0))), (q_n27, .inr (3, [.ref q_n31_n8, .int (0 : Int32)])), (q_n31_n8, .inl (cB, 10000, .inl (fun _ => 0))), (q_n38, .inr (2, [.ref q_n5, .ref q_n46_n8, .ref q_n46_n17, .int (0 : Int32), .int (0 : Int32), .int (0 : Int32), .int (0 : Int32)])), (q_n46_n8, .inl (cI, 10000, .inl (fun _ => 0))), (q_n46_n17, .inl (cI, 2048, .inl (fun _ => 0))), (q_n53, .inr (1, [.null, .null, .null]))] := hw
  refine lv_dup hx hb d_TP_init_56 rfl ?_
  refine lv_aload_n hx hb d_TP_init_57 rfl (lv_at hl 0 rfl) ?_
  refine tp_get (v := .ref q_n5) (C := R_TP) (T := T_TP) hx hb hts fw_TP hown hw 0 rfl rfl 0 (by decide +kernel) (hts _ wd_233) rfl d_TP_init_58 ?_
  refine lv_aload_n hx hb d_TP_init_61 rfl (lv_at hl 0 rfl) ?_
  refine tp_get (v := .ref q_n27) (C := R_TP) (T := T_TP) hx hb hts fw_TP hown hw 0 rfl rfl 2 (by decide +kernel) (hts _ wd_226) rfl d_TP_init_62 ?_
  refine lv_aload_n hx hb d_TP_init_65 rfl (lv_at hl 0 rfl) ?_
  refine tp_get (v := .ref q_n38) (C := R_TP) (T := T_TP) hx hb hts fw_TP hown hw 0 rfl rfl 3 (by decide +kernel) (hts _ wd_242) rfl d_TP_init_66 ?_
  refine tp_calln (wr := [(q_h, .inr (6, [.ref q_n5, .ref q_n16, .ref q_n27, .ref q_n38, .null, .null, .null, .null, .int 0])), (q_n5, .inr (3, [.ref q_n9_n8, .int (0 : Int32)])), (q_n9_n8, .inl (cB, 10000, .inl (fun _ => 0))), (q_n16, .inr (3, [.ref q_n20_n8, .int (0 : Int32)])), (q_n20_n8, .inl (cB, 10000, .inl (fun _ => 0))), (q_n27, .inr (3, [.ref q_n31_n8, .int (0 : Int32)])), (q_n31_n8, .inl (cB, 10000, .inl (fun _ => 0))), (q_n38, .inr (2, [.ref q_n5, .ref q_n46_n8, .ref q_n46_n17, .int (0 : Int32), .int (0 : Int32), .int (0 : Int32), .int (0 : Int32)])), (q_n46_n8, .inl (cI, 10000, .inl (fun _ => 0))), (q_n46_n17, .inl (cI, 2048, .inl (fun _ => 0)))]) (WSg := fun (_ : Unit) => [(q_h, .inr (6, [.ref q_n5, .ref q_n16, .ref q_n27, .ref q_n38, .null, .null, .null, .null, .int 0])), (q_n5, .inr (3, [.ref q_n9_n8, .int (0 : Int32)])), (q_n9_n8, .inl (cB, 10000, .inl (fun _ => 0))), (q_n16, .inr (3, [.ref q_n20_n8, .int (0 : Int32)])), (q_n20_n8, .inl (cB, 10000, .inl (fun _ => 0))), (q_n27, .inr (3, [.ref q_n31_n8, .int (0 : Int32)])), (q_n31_n8, .inl (cB, 10000, .inl (fun _ => 0))), (q_n38, .inr (2, [.ref q_n5, .ref q_n46_n8, .ref q_n46_n17, .int (0 : Int32), .int (0 : Int32), .int (0 : Int32), .int (0 : Int32)])), (q_n46_n8, .inl (cI, 10000, .inl (fun _ => 0))), (q_n46_n17, .inl (cI, 2048, .inl (fun _ => 0))), (q_n53, .inr (1, [.ref q_n5, .ref q_n27, .ref q_n38]))]) (va_runI (As := [.ref q_n5, .ref q_n27, .ref q_n38]) (rest := [.ref q_n53, .ref q_h]) hF (ct_BlockWriter_init (l := l) (D := D) (cB := cB) (cI := cI) (tM := tM) (q_bw := q_n53) (q_b := q_n5) (q_d := q_n27) (q_g := q_n38) _) (cwI 3 hts (tpG_W wd_314) rfl rfl rfl (hts _ wd_97) (hts _ wd_315) (hts _ wd_316) rfl yd_BlockWriter_init ⟨Nat.le_of_ble_eq_true rfl, Nat.le_of_ble_eq_true rfl⟩) ⟨tp_blind, tp_pre hw [10] rfl rfl⟩ rfl rfl hl.1 rfl (lv_room (Nat.le_of_ble_eq_true rfl)) d_TP_init_69 ⟨Nat.le_of_ble_eq_true rfl, Nat.le_of_ble_eq_true rfl⟩) hw [10] [0, 1, 2, 3, 4, 5, 6, 7, 8, 9] [0, 1, 2, 3, 4, 5, 6, 7, 8, 9, 10] rfl rfl rfl (by decide) (fun _ => rfl) rfl (fun u H locs hw => ?_)
  replace hw : tp_Wd D (tp_ty cB cI) tM A s _ _ [(q_h, .inr (6, [.ref q_n5, .ref q_n16, .ref q_n27, .ref q_n38, .null, .null, .null, .null, .int 0])), (q_n5, .inr (3, [.ref q_n9_n8, .int (0 : Int32)])), (q_n9_n8, .inl (cB, 10000, .inl (fun _ => 0))), (q_n16, .inr (3, [.ref q_n20_n8, .int (0 : Int32)])), (q_n20_n8, .inl (cB, 10000, .inl (fun _ => 0))), (q_n27, .inr (3, [.ref q_n31_n8, .int (0 : Int32)])), (q_n31_n8, .inl (cB, 10000, .inl (fun _ => 0))), (q_n38, .inr (2, [.ref q_n5, .ref q_n46_n8, .ref q_n46_n17, .int (0 : Int32), .int (0 : Int32), .int (0 : Int32), .int (0 : Int32)])), (q_n46_n8, .inl (cI, 10000, .inl (fun _ => 0))), (q_n46_n17, .inl (cI, 2048, .inl (fun _ => 0))), (q_n53, .inr (1, [.ref q_n5, .ref q_n27, .ref q_n38]))] := hw
  refine tp_putF (v := .ref q_n53) (C := R_TP) (T := T_TP) (WS' := [(q_h, .inr (6, [.ref q_n5, .ref q_n16, .ref q_n27, .ref q_n38, .ref q_n53, .null, .null, .null, .int 0])), (q_n5, .inr (3, [.ref q_n9_n8, .int (0 : Int32)])), (q_n9_n8, .inl (cB, 10000, .inl (fun _ => 0))), (q_n16, .inr (3, [.ref q_n20_n8, .int (0 : Int32)])), (q_n20_n8, .inl (cB, 10000, .inl (fun _ => 0))), (q_n27, .inr (3, [.ref q_n31_n8, .int (0 : Int32)])), (q_n31_n8, .inl (cB, 10000, .inl (fun _ => 0))), (q_n38, .inr (2, [.ref q_n5, .ref q_n46_n8, .ref q_n46_n17, .int (0 : Int32), .int (0 : Int32), .int (0 : Int32), .int (0 : Int32)])), (q_n46_n8, .inl (cI, 10000, .inl (fun _ => 0))), (q_n46_n17, .inl (cI, 2048, .inl (fun _ => 0))), (q_n53, .inr (1, [.ref q_n5, .ref q_n27, .ref q_n38]))]) hx hb hts fw_TP ty_TP ty_TP_ok nm_TP hown hw 0 rfl rfl 4 (by decide +kernel) (hts _ wd_247) rfl hin rfl rfl rfl (Nat.le_of_ble_eq_true rfl) rfl d_TP_init_72 (fun H locs hw => ?_)
  refine lv_aload_n hx hb d_TP_init_75 rfl (lv_at hl 0 rfl) ?_
  refine tp_new (ci := 5) (fs := [.null, .null, .null]) (C := R_StreamWriter) (T := T_StreamWriter) (N := 3) hx hb hts fw_StreamWriter ty_StreamWriter ty_StreamWriter_ok hown (hts _ wd_317) (hts _ wd_318) (hts _ wd_264) hw rfl (fun j hj => by rcases (show j = 0 ∨ j = 1 ∨ j = 2 by omega) with rfl | rfl | rfl <;> rfl) (Nat.le_of_ble_eq_true rfl) (Nat.le_of_ble_eq_true rfl) d_TP_init_76 (fun q_n76 H hw => ?_)
  replace hw : tp_Wd D (tp_ty cB cI) tM A s _ _ [(q_h, .inr (6, [.ref q_n5, .ref q_n16, .ref q_n27, .ref q_n38, .ref q_n53, .null, .null, .null, .int 0])), (q_n5, .inr (3, [.ref q_n9_n8, .int (0 : Int32)])), (q_n9_n8, .inl (cB, 10000, .inl (fun _ => 0))), (q_n16, .inr (3, [.ref q_n20_n8, .int (0 : Int32)])), (q_n20_n8, .inl (cB, 10000, .inl (fun _ => 0))), (q_n27, .inr (3, [.ref q_n31_n8, .int (0 : Int32)])), (q_n31_n8, .inl (cB, 10000, .inl (fun _ => 0))), (q_n38, .inr (2, [.ref q_n5, .ref q_n46_n8, .ref q_n46_n17, .int (0 : Int32), .int (0 : Int32), .int (0 : Int32), .int (0 : Int32)])), (q_n46_n8, .inl (cI, 10000, .inl (fun _ => 0))), (q_n46_n17, .inl (cI, 2048, .inl (fun _ => 0))), (q_n53, .inr (1, [.ref q_n5, .ref q_n27, .ref q_n38])), (q_n76, .inr (5, [.null, .null, .null]))] := hw
  refine lv_dup hx hb d_TP_init_79 rfl ?_
  refine lv_aload_n hx hb d_TP_init_80 rfl (lv_at hl 0 rfl) ?_
  refine tp_get (v := .ref q_n5) (C := R_TP) (T := T_TP) hx hb hts fw_TP hown hw 0 rfl rfl 0 (by decide +kernel) (hts _ wd_233) rfl d_TP_init_81 ?_
  refine lv_aload_n hx hb d_TP_init_84 rfl (lv_at hl 0 rfl) ?_
  refine tp_get (v := .ref q_n27) (C := R_TP) (T := T_TP) hx hb hts fw_TP hown hw 0 rfl rfl 2 (by decide +kernel) (hts _ wd_226) rfl d_TP_init_85 ?_
  refine lv_aload_n hx hb d_TP_init_88 rfl (lv_at hl 0 rfl) ?_
  refine tp_get (v := .ref q_n53) (C := R_TP) (T := T_TP) hx hb hts fw_TP hown hw 0 rfl rfl 4 (by decide +kernel) (hts _ wd_247) rfl d_TP_init_89 ?_
  refine tp_calln (wr := [(q_h, .inr (6, [.ref q_n5, .ref q_n16, .ref q_n27, .ref q_n38, .ref q_n53, .null, .null, .null, .int 0])), (q_n5, .inr (3, [.ref q_n9_n8, .int (0 : Int32)])), (q_n9_n8, .inl (cB, 10000, .inl (fun _ => 0))), (q_n16, .inr (3, [.ref q_n20_n8, .int (0 : Int32)])), (q_n20_n8, .inl (cB, 10000, .inl (fun _ => 0))), (q_n27, .inr (3, [.ref q_n31_n8, .int (0 : Int32)])), (q_n31_n8, .inl (cB, 10000, .inl (fun _ => 0))), (q_n38, .inr (2, [.ref q_n5, .ref q_n46_n8, .ref q_n46_n17, .int (0 : Int32), .int (0 : Int32), .int (0 : Int32), .int (0 : Int32)])), (q_n46_n8, .inl (cI, 10000, .inl (fun _ => 0))), (q_n46_n17, .inl (cI, 2048, .inl (fun _ => 0))), (q_n53, .inr (1, [.ref q_n5, .ref q_n27, .ref q_n38]))]) (WSg := fun (_ : Unit) => [(q_h, .inr (6, [.ref q_n5, .ref q_n16, .ref q_n27, .ref q_n38, .ref q_n53, .null, .null, .null, .int 0])), (q_n5, .inr (3, [.ref q_n9_n8, .int (0 : Int32)])), (q_n9_n8, .inl (cB, 10000, .inl (fun _ => 0))), (q_n16, .inr (3, [.ref q_n20_n8, .int (0 : Int32)])), (q_n20_n8, .inl (cB, 10000, .inl (fun _ => 0))), (q_n27, .inr (3, [.ref q_n31_n8, .int (0 : Int32)])), (q_n31_n8, .inl (cB, 10000, .inl (fun _ => 0))), (q_n38, .inr (2, [.ref q_n5, .ref q_n46_n8, .ref q_n46_n17, .int (0 : Int32), .int (0 : Int32), .int (0 : Int32), .int (0 : Int32)])), (q_n46_n8, .inl (cI, 10000, .inl (fun _ => 0))), (q_n46_n17, .inl (cI, 2048, .inl (fun _ => 0))), (q_n53, .inr (1, [.ref q_n5, .ref q_n27, .ref q_n38])), (q_n76, .inr (5, [.ref q_n5, .ref q_n27, .ref q_n53]))]) (va_runI (As := [.ref q_n5, .ref q_n27, .ref q_n53]) (rest := [.ref q_n76, .ref q_h]) hF (ct_StreamWriter_init (l := l) (D := D) (cB := cB) (cI := cI) (tM := tM) (q_sw := q_n76) (q_b := q_n5) (q_d := q_n27) (q_g := q_n53) _) (cwI 3 hts (tpG_W wd_319) rfl rfl rfl (hts _ wd_264) (hts _ wd_320) (hts _ wd_321) rfl yd_StreamWriter_init ⟨Nat.le_of_ble_eq_true rfl, Nat.le_of_ble_eq_true rfl⟩) ⟨tp_blind, tp_pre hw [11] rfl rfl⟩ rfl rfl hl.1 rfl (lv_room (Nat.le_of_ble_eq_true rfl)) d_TP_init_92 ⟨Nat.le_of_ble_eq_true rfl, Nat.le_of_ble_eq_true rfl⟩) hw [11] [0, 1, 2, 3, 4, 5, 6, 7, 8, 9, 10] [0, 1, 2, 3, 4, 5, 6, 7, 8, 9, 10, 11] rfl rfl rfl (by decide) (fun _ => rfl) rfl (fun u H locs hw => ?_)
  replace hw : tp_Wd D (tp_ty cB cI) tM A s _ _ [(q_h, .inr (6, [.ref q_n5, .ref q_n16, .ref q_n27, .ref q_n38, .ref q_n53, .null, .null, .null, .int 0])), (q_n5, .inr (3, [.ref q_n9_n8, .int (0 : Int32)])), (q_n9_n8, .inl (cB, 10000, .inl (fun _ => 0))), (q_n16, .inr (3, [.ref q_n20_n8, .int (0 : Int32)])), (q_n20_n8, .inl (cB, 10000, .inl (fun _ => 0))), (q_n27, .inr (3, [.ref q_n31_n8, .int (0 : Int32)])), (q_n31_n8, .inl (cB, 10000, .inl (fun _ => 0))), (q_n38, .inr (2, [.ref q_n5, .ref q_n46_n8, .ref q_n46_n17, .int (0 : Int32), .int (0 : Int32), .int (0 : Int32), .int (0 : Int32)])), (q_n46_n8, .inl (cI, 10000, .inl (fun _ => 0))), (q_n46_n17, .inl (cI, 2048, .inl (fun _ => 0))), (q_n53, .inr (1, [.ref q_n5, .ref q_n27, .ref q_n38])), (q_n76, .inr (5, [.ref q_n5, .ref q_n27, .ref q_n53]))] := hw
  refine tp_putF (v := .ref q_n76) (C := R_TP) (T := T_TP) (WS' := [(q_h, .inr (6, [.ref q_n5, .ref q_n16, .ref q_n27, .ref q_n38, .ref q_n53, .ref q_n76, .null, .null, .int 0])), (q_n5, .inr (3, [.ref q_n9_n8, .int (0 : Int32)])), (q_n9_n8, .inl (cB, 10000, .inl (fun _ => 0))), (q_n16, .inr (3, [.ref q_n20_n8, .int (0 : Int32)])), (q_n20_n8, .inl (cB, 10000, .inl (fun _ => 0))), (q_n27, .inr (3, [.ref q_n31_n8, .int (0 : Int32)])), (q_n31_n8, .inl (cB, 10000, .inl (fun _ => 0))), (q_n38, .inr (2, [.ref q_n5, .ref q_n46_n8, .ref q_n46_n17, .int (0 : Int32), .int (0 : Int32), .int (0 : Int32), .int (0 : Int32)])), (q_n46_n8, .inl (cI, 10000, .inl (fun _ => 0))), (q_n46_n17, .inl (cI, 2048, .inl (fun _ => 0))), (q_n53, .inr (1, [.ref q_n5, .ref q_n27, .ref q_n38])), (q_n76, .inr (5, [.ref q_n5, .ref q_n27, .ref q_n53]))]) hx hb hts fw_TP ty_TP ty_TP_ok nm_TP hown hw 0 rfl rfl 5 (by decide +kernel) (hts _ wd_262) rfl hin rfl rfl rfl (Nat.le_of_ble_eq_true rfl) rfl d_TP_init_95 (fun H locs hw => ?_)
  refine lv_aload_n hx hb d_TP_init_98 rfl (lv_at hl 0 rfl) ?_
  refine tp_new (ci := 0) (fs := [.null, .null, .int 0, .int 0, .int 0, .long 0, .int 0, .int 0]) (C := R_BlockReader) (T := T_BlockReader) (N := 8) hx hb hts fw_BlockReader ty_BlockReader ty_BlockReader_ok hown (hts _ wd_322) (hts _ wd_323) (hts _ wd_144) hw rfl (fun j hj => by rcases (show j = 0 ∨ j = 1 ∨ j = 2 ∨ j = 3 ∨ j = 4 ∨ j = 5 ∨ j = 6 ∨ j = 7 by omega) with rfl | rfl | rfl | rfl | rfl | rfl | rfl | rfl <;> rfl) (Nat.le_of_ble_eq_true rfl) (Nat.le_of_ble_eq_true rfl) d_TP_init_99 (fun q_n99 H hw => ?_)
  replace hw : tp_Wd D (tp_ty cB cI) tM A s _ _ [(q_h, .inr (6, [.ref q_n5, .ref q_n16, .ref q_n27, .ref q_n38, .ref q_n53, .ref q_n76, .null, .null, .int 0])), (q_n5, .inr (3, [.ref q_n9_n8, .int (0 : Int32)])), (q_n9_n8, .inl (cB, 10000, .inl (fun _ => 0))), (q_n16, .inr (3, [.ref q_n20_n8, .int (0 : Int32)])), (q_n20_n8, .inl (cB, 10000, .inl (fun _ => 0))), (q_n27, .inr (3, [.ref q_n31_n8, .int (0 : Int32)])), (q_n31_n8, .inl (cB, 10000, .inl (fun _ => 0))), (q_n38, .inr (2, [.ref q_n5, .ref q_n46_n8, .ref q_n46_n17, .int (0 : Int32), .int (0 : Int32), .int (0 : Int32), .int (0 : Int32)])), (q_n46_n8, .inl (cI, 10000, .inl (fun _ => 0))), (q_n46_n17, .inl (cI, 2048, .inl (fun _ => 0))), (q_n53, .inr (1, [.ref q_n5, .ref q_n27, .ref q_n38])), (q_n76, .inr (5, [.ref q_n5, .ref q_n27, .ref q_n53])), (q_n99, .inr (0, [.null, .null, .int 0, .int 0, .int 0, .long 0, .int 0, .int 0]))] := hw
  refine lv_dup hx hb d_TP_init_102 rfl ?_
  refine lv_aload_n hx hb d_TP_init_103 rfl (lv_at hl 0 rfl) ?_
  refine tp_get (v := .ref q_n5) (C := R_TP) (T := T_TP) hx hb hts fw_TP hown hw 0 rfl rfl 0 (by decide +kernel) (hts _ wd_233) rfl d_TP_init_104 ?_
  refine lv_aload_n hx hb d_TP_init_107 rfl (lv_at hl 0 rfl) ?_
  refine tp_get (v := .ref q_n27) (C := R_TP) (T := T_TP) hx hb hts fw_TP hown hw 0 rfl rfl 2 (by decide +kernel) (hts _ wd_226) rfl d_TP_init_108 ?_
  refine tp_calln (wr := [(q_h, .inr (6, [.ref q_n5, .ref q_n16, .ref q_n27, .ref q_n38, .ref q_n53, .ref q_n76, .null, .null, .int 0])), (q_n5, .inr (3, [.ref q_n9_n8, .int (0 : Int32)])), (q_n9_n8, .inl (cB, 10000, .inl (fun _ => 0))), (q_n16, .inr (3, [.ref q_n20_n8, .int (0 : Int32)])), (q_n20_n8, .inl (cB, 10000, .inl (fun _ => 0))), (q_n27, .inr (3, [.ref q_n31_n8, .int (0 : Int32)])), (q_n31_n8, .inl (cB, 10000, .inl (fun _ => 0))), (q_n38, .inr (2, [.ref q_n5, .ref q_n46_n8, .ref q_n46_n17, .int (0 : Int32), .int (0 : Int32), .int (0 : Int32), .int (0 : Int32)])), (q_n46_n8, .inl (cI, 10000, .inl (fun _ => 0))), (q_n46_n17, .inl (cI, 2048, .inl (fun _ => 0))), (q_n53, .inr (1, [.ref q_n5, .ref q_n27, .ref q_n38])), (q_n76, .inr (5, [.ref q_n5, .ref q_n27, .ref q_n53]))]) (WSg := fun (_ : Unit) => [(q_h, .inr (6, [.ref q_n5, .ref q_n16, .ref q_n27, .ref q_n38, .ref q_n53, .ref q_n76, .null, .null, .int 0])), (q_n5, .inr (3, [.ref q_n9_n8, .int (0 : Int32)])), (q_n9_n8, .inl (cB, 10000, .inl (fun _ => 0))), (q_n16, .inr (3, [.ref q_n20_n8, .int (0 : Int32)])), (q_n20_n8, .inl (cB, 10000, .inl (fun _ => 0))), (q_n27, .inr (3, [.ref q_n31_n8, .int (0 : Int32)])), (q_n31_n8, .inl (cB, 10000, .inl (fun _ => 0))), (q_n38, .inr (2, [.ref q_n5, .ref q_n46_n8, .ref q_n46_n17, .int (0 : Int32), .int (0 : Int32), .int (0 : Int32), .int (0 : Int32)])), (q_n46_n8, .inl (cI, 10000, .inl (fun _ => 0))), (q_n46_n17, .inl (cI, 2048, .inl (fun _ => 0))), (q_n53, .inr (1, [.ref q_n5, .ref q_n27, .ref q_n38])), (q_n76, .inr (5, [.ref q_n5, .ref q_n27, .ref q_n53])), (q_n99, .inr (0, [.ref q_n5, .ref q_n27, .int (0 : Int32), .int (0 : Int32), .int (0 : Int32), .long (0 : Int64), .int (0 : Int32), .int (0 : Int32)]))]) (va_runI (As := [.ref q_n5, .ref q_n27]) (rest := [.ref q_n99, .ref q_h]) hF (ct_BlockReader_init (l := l) (D := D) (cB := cB) (cI := cI) (tM := tM) (q_br := q_n99) (q_b := q_n5) (q_d := q_n27) _) (cwI 2 hts (tpG_W wd_324) rfl rfl rfl (hts _ wd_144) (hts _ wd_325) (hts _ wd_326) rfl yd_BlockReader_init ⟨Nat.le_of_ble_eq_true rfl, Nat.le_of_ble_eq_true rfl⟩) ⟨tp_blind, tp_pre hw [12] rfl rfl⟩ rfl rfl hl.1 rfl (lv_room (Nat.le_of_ble_eq_true rfl)) d_TP_init_111 ⟨Nat.le_of_ble_eq_true rfl, Nat.le_of_ble_eq_true rfl⟩) hw [12] [0, 1, 2, 3, 4, 5, 6, 7, 8, 9, 10, 11] [0, 1, 2, 3, 4, 5, 6, 7, 8, 9, 10, 11, 12] rfl rfl rfl (by decide) (fun _ => rfl) rfl (fun u H locs hw => ?_)
  replace hw : tp_Wd D (tp_ty cB cI) tM A s _ _ [(q_h, .inr (6, [.ref q_n5, .ref q_n16, .ref q_n27, .ref q_n38, .ref q_n53, .ref q_n76, .null, .null, .int 0])), (q_n5, .inr (3, [.ref q_n9_n8, .int (0 : Int32)])), (q_n9_n8, .inl (cB, 10000, .inl (fun _ => 0))), (q_n16, .inr (3, [.ref q_n20_n8, .int (0 : Int32)])), (q_n20_n8, .inl (cB, 10000, .inl (fun _ => 0))), (q_n27, .inr (3, [.ref q_n31_n8, .int (0 : Int32)])), (q_n31_n8, .inl (cB, 10000, .inl (fun _ => 0))), (q_n38, .inr (2, [.ref q_n5, .ref q_n46_n8, .ref q_n46_n17, .int (0 : Int32), .int (0 : Int32), .int (0 : Int32), .int (0 : Int32)])), (q_n46_n8, .inl (cI, 10000, .inl (fun _ => 0))), (q_n46_n17, .inl (cI, 2048, .inl (fun _ => 0))), (q_n53, .inr (1, [.ref q_n5, .ref q_n27, .ref q_n38])), (q_n76, .inr (5, [.ref q_n5, .ref q_n27, .ref q_n53])), (q_n99, .inr (0, [.ref q_n5, .ref q_n27, .int (0 : Int32), .int (0 : Int32), .int (0 : Int32), .long (0 : Int64), .int (0 : Int32), .int (0 : Int32)]))] := hw
  refine tp_putF (v := .ref q_n99) (C := R_TP) (T := T_TP) (WS' := [(q_h, .inr (6, [.ref q_n5, .ref q_n16, .ref q_n27, .ref q_n38, .ref q_n53, .ref q_n76, .ref q_n99, .null, .int 0])), (q_n5, .inr (3, [.ref q_n9_n8, .int (0 : Int32)])), (q_n9_n8, .inl (cB, 10000, .inl (fun _ => 0))), (q_n16, .inr (3, [.ref q_n20_n8, .int (0 : Int32)])), (q_n20_n8, .inl (cB, 10000, .inl (fun _ => 0))), (q_n27, .inr (3, [.ref q_n31_n8, .int (0 : Int32)])), (q_n31_n8, .inl (cB, 10000, .inl (fun _ => 0))), (q_n38, .inr (2, [.ref q_n5, .ref q_n46_n8, .ref q_n46_n17, .int (0 : Int32), .int (0 : Int32), .int (0 : Int32), .int (0 : Int32)])), (q_n46_n8, .inl (cI, 10000, .inl (fun _ => 0))), (q_n46_n17, .inl (cI, 2048, .inl (fun _ => 0))), (q_n53, .inr (1, [.ref q_n5, .ref q_n27, .ref q_n38])), (q_n76, .inr (5, [.ref q_n5, .ref q_n27, .ref q_n53])), (q_n99, .inr (0, [.ref q_n5, .ref q_n27, .int (0 : Int32), .int (0 : Int32), .int (0 : Int32), .long (0 : Int64), .int (0 : Int32), .int (0 : Int32)]))]) hx hb hts fw_TP ty_TP ty_TP_ok nm_TP hown hw 0 rfl rfl 6 (by decide +kernel) (hts _ wd_256) rfl hin rfl rfl rfl (Nat.le_of_ble_eq_true rfl) rfl d_TP_init_114 (fun H locs hw => ?_)
  refine lv_aload_n hx hb d_TP_init_117 rfl (lv_at hl 0 rfl) ?_
  refine tp_new (ci := 4) (fs := [.null, .null, .null, .int 0, .int 0, .int 0, .int 0]) (C := R_StreamReader) (T := T_StreamReader) (N := 7) hx hb hts fw_StreamReader ty_StreamReader ty_StreamReader_ok hown (hts _ wd_327) (hts _ wd_328) (hts _ wd_189) hw rfl (fun j hj => by rcases (show j = 0 ∨ j = 1 ∨ j = 2 ∨ j = 3 ∨ j = 4 ∨ j = 5 ∨ j = 6 by omega) with rfl | rfl | rfl | rfl | rfl | rfl | rfl <;> rfl) (Nat.le_of_ble_eq_true rfl) (Nat.le_of_ble_eq_true rfl) d_TP_init_118 (fun q_n118 H hw => ?_)
  replace hw : tp_Wd D (tp_ty cB cI) tM A s _ _ [(q_h, .inr (6, [.ref q_n5, .ref q_n16, .ref q_n27, .ref q_n38, .ref q_n53, .ref q_n76, .ref q_n99, .null, .int 0])), (q_n5, .inr (3, [.ref q_n9_n8, .int (0 : Int32)])), (q_n9_n8, .inl (cB, 10000, .inl (fun _ => 0))), (q_n16, .inr (3, [.ref q_n20_n8, .int (0 : Int32)])), (q_n20_n8, .inl (cB, 10000, .inl (fun _ => 0))), (q_n27, .inr (3, [.ref q_n31_n8, .int (0 : Int32)])), (q_n31_n8, .inl (cB, 10000, .inl (fun _ => 0))), (q_n38, .inr (2, [.ref q_n5, .ref q_n46_n8, .ref q_n46_n17, .int (0 : Int32), .int (0 : Int32), .int (0 : Int32), .int (0 : Int32)])), (q_n46_n8, .inl (cI, 10000, .inl (fun _ => 0))), (q_n46_n17, .inl (cI, 2048, .inl (fun _ => 0))), (q_n53, .inr (1, [.ref q_n5, .ref q_n27, .ref q_n38])), (q_n76, .inr (5, [.ref q_n5, .ref q_n27, .ref q_n53])), (q_n99, .inr (0, [.ref q_n5, .ref q_n27, .int (0 : Int32), .int (0 : Int32), .int (0 : Int32), .long (0 : Int64), .int (0 : Int32), .int (0 : Int32)])), (q_n118, .inr (4, [.null, .null, .null, .int 0, .int 0, .int 0, .int 0]))] := hw
  refine lv_dup hx hb d_TP_init_121 rfl ?_
  refine lv_aload_n hx hb d_TP_init_122 rfl (lv_at hl 0 rfl) ?_
  refine tp_get (v := .ref q_n5) (C := R_TP) (T := T_TP) hx hb hts fw_TP hown hw 0 rfl rfl 0 (by decide +kernel) (hts _ wd_233) rfl d_TP_init_123 ?_
  refine lv_aload_n hx hb d_TP_init_126 rfl (lv_at hl 0 rfl) ?_
  refine tp_get (v := .ref q_n27) (C := R_TP) (T := T_TP) hx hb hts fw_TP hown hw 0 rfl rfl 2 (by decide +kernel) (hts _ wd_226) rfl d_TP_init_127 ?_
  refine lv_aload_n hx hb d_TP_init_130 rfl (lv_at hl 0 rfl) ?_
  refine tp_get (v := .ref q_n99) (C := R_TP) (T := T_TP) hx hb hts fw_TP hown hw 0 rfl rfl 6 (by decide +kernel) (hts _ wd_256) rfl d_TP_init_131 ?_
  refine tp_calln (wr := [(q_h, .inr (6, [.ref q_n5, .ref q_n16, .ref q_n27, .ref q_n38, .ref q_n53, .ref q_n76, .ref q_n99, .null, .int 0])), (q_n5, .inr (3, [.ref q_n9_n8, .int (0 : Int32)])), (q_n9_n8, .inl (cB, 10000, .inl (fun _ => 0))), (q_n16, .inr (3, [.ref q_n20_n8, .int (0 : Int32)])), (q_n20_n8, .inl (cB, 10000, .inl (fun _ => 0))), (q_n27, .inr (3, [.ref q_n31_n8, .int (0 : Int32)])), (q_n31_n8, .inl (cB, 10000, .inl (fun _ => 0))), (q_n38, .inr (2, [.ref q_n5, .ref q_n46_n8, .ref q_n46_n17, .int (0 : Int32), .int (0 : Int32), .int (0 : Int32), .int (0 : Int32)])), (q_n46_n8, .inl (cI, 10000, .inl (fun _ => 0))), (q_n46_n17, .inl (cI, 2048, .inl (fun _ => 0))), (q_n53, .inr (1, [.ref q_n5, .ref q_n27, .ref q_n38])), (q_n76, .inr (5, [.ref q_n5, .ref q_n27, .ref q_n53])), (q_n99, .inr (0, [.ref q_n5, .ref q_n27, .int (0 : Int32), .int (0 : Int32), .int (0 : Int32), .long (0 : Int64), .int (0 : Int32), .int (0 : Int32)]))]) (WSg := fun (_ : Unit) => [(q_h, .inr (6, [.ref q_n5, .ref q_n16, .ref q_n27, .ref q_n38, .ref q_n53, .ref q_n76, .ref q_n99, .null, .int 0])), (q_n5, .inr (3, [.ref q_n9_n8, .int (0 : Int32)])), (q_n9_n8, .inl (cB, 10000, .inl (fun _ => 0))), (q_n16, .inr (3, [.ref q_n20_n8, .int (0 : Int32)])), (q_n20_n8, .inl (cB, 10000, .inl (fun _ => 0))), (q_n27, .inr (3, [.ref q_n31_n8, .int (0 : Int32)])), (q_n31_n8, .inl (cB, 10000, .inl (fun _ => 0))), (q_n38, .inr (2, [.ref q_n5, .ref q_n46_n8, .ref q_n46_n17, .int (0 : Int32), .int (0 : Int32), .int (0 : Int32), .int (0 : Int32)])), (q_n46_n8, .inl (cI, 10000, .inl (fun _ => 0))), (q_n46_n17, .inl (cI, 2048, .inl (fun _ => 0))), (q_n53, .inr (1, [.ref q_n5, .ref q_n27, .ref q_n38])), (q_n76, .inr (5, [.ref q_n5, .ref q_n27, .ref q_n53])), (q_n99, .inr (0, [.ref q_n5, .ref q_n27, .int (0 : Int32), .int (0 : Int32), .int (0 : Int32), .long (0 : Int64), .int (0 : Int32), .int (0 : Int32)])), (q_n118, .inr (4, [.ref q_n5, .ref q_n27, .ref q_n99, .int (0 : Int32), .int (0 : Int32), .int (0 : Int32), .int (0 : Int32)]))]) (va_runI (As := [.ref q_n5, .ref q_n27, .ref q_n99]) (rest := [.ref q_n118, .ref q_h]) hF (ct_StreamReader_init (l := l) (D := D) (cB := cB) (cI := cI) (tM := tM) (q_sr := q_n118) (q_b := q_n5) (q_d := q_n27) (q_g := q_n99) _) (cwI 3 hts (tpG_W wd_329) rfl rfl rfl (hts _ wd_189) (hts _ wd_330) (hts _ wd_331) rfl yd_StreamReader_init ⟨Nat.le_of_ble_eq_true rfl, Nat.le_of_ble_eq_true rfl⟩) ⟨tp_blind, tp_pre hw [13] rfl rfl⟩ rfl rfl hl.1 rfl (lv_room (Nat.le_of_ble_eq_true rfl)) d_TP_init_134 ⟨Nat.le_of_ble_eq_true rfl, Nat.le_of_ble_eq_true rfl⟩) hw [13] [0, 1, 2, 3, 4, 5, 6, 7, 8, 9, 10, 11, 12] [0, 1, 2, 3, 4, 5, 6, 7, 8, 9, 10, 11, 12, 13] rfl rfl rfl (by decide) (fun _ => rfl) rfl (fun u H locs hw => ?_)
  replace hw : tp_Wd D (tp_ty cB cI) tM A s _ _ [(q_h, .inr (6, [.ref q_n5, .ref q_n16, .ref q_n27, .ref q_n38, .ref q_n53, .ref q_n76, .ref q_n99, .null, .int 0])), (q_n5, .inr (3, [.ref q_n9_n8, .int (0 : Int32)])), (q_n9_n8, .inl (cB, 10000, .inl (fun _ => 0))), (q_n16, .inr (3, [.ref q_n20_n8, .int (0 : Int32)])), (q_n20_n8, .inl (cB, 10000, .inl (fun _ => 0))), (q_n27, .inr (3, [.ref q_n31_n8, .int (0 : Int32)])), (q_n31_n8, .inl (cB, 10000, .inl (fun _ => 0))), (q_n38, .inr (2, [.ref q_n5, .ref q_n46_n8, .ref q_n46_n17, .int (0 : Int32), .int (0 : Int32), .int (0 : Int32), .int (0 : Int32)])), (q_n46_n8, .inl (cI, 10000, .inl (fun _ => 0))), (q_n46_n17, .inl (cI, 2048, .inl (fun _ => 0))), (q_n53, .inr (1, [.ref q_n5, .ref q_n27, .ref q_n38])), (q_n76, .inr (5, [.ref q_n5, .ref q_n27, .ref q_n53])), (q_n99, .inr (0, [.ref q_n5, .ref q_n27, .int (0 : Int32), .int (0 : Int32), .int (0 : Int32), .long (0 : Int64), .int (0 : Int32), .int (0 : Int32)])), (q_n118, .inr (4, [.ref q_n5, .ref q_n27, .ref q_n99, .int (0 : Int32), .int (0 : Int32), .int (0 : Int32), .int (0 : Int32)]))] := hw
  refine tp_putF (v := .ref q_n118) (C := R_TP) (T := T_TP) (WS' := [(q_h, .inr (6, [.ref q_n5, .ref q_n16, .ref q_n27, .ref q_n38, .ref q_n53, .ref q_n76, .ref q_n99, .ref q_n118, .int 0])), (q_n5, .inr (3, [.ref q_n9_n8, .int (0 : Int32)])), (q_n9_n8, .inl (cB, 10000, .inl (fun _ => 0))), (q_n16, .inr (3, [.ref q_n20_n8, .int (0 : Int32)])), (q_n20_n8, .inl (cB, 10000, .inl (fun _ => 0))), (q_n27, .inr (3, [.ref q_n31_n8, .int (0 : Int32)])), (q_n31_n8, .inl (cB, 10000, .inl (fun _ => 0))), (q_n38, .inr (2, [.ref q_n5, .ref q_n46_n8, .ref q_n46_n17, .int (0 : Int32), .int (0 : Int32), .int (0 : Int32), .int (0 : Int32)])), (q_n46_n8, .inl (cI, 10000, .inl (fun _ => 0))), (q_n46_n17, .inl (cI, 2048, .inl (fun _ => 0))), (q_n53, .inr (1, [.ref q_n5, .ref q_n27, .ref q_n38])), (q_n76, .inr (5, [.ref q_n5, .ref q_n27, .ref q_n53])), (q_n99, .inr (0, [.ref q_n5, .ref q_n27, .int (0 : Int32), .int (0 : Int32), .int (0 : Int32), .long (0 : Int64), .int (0 : Int32), .int (0 : Int32)])), (q_n118, .inr (4, [.ref q_n5, .ref q_n27, .ref q_n99, .int (0 : Int32), .int (0 : Int32), .int (0 : Int32), .int (0 : Int32)]))]) hx hb hts fw_TP ty_TP ty_TP_ok nm_TP hown hw 0 rfl rfl 7 (by decide +kernel) (hts _ wd_277) rfl hin rfl rfl rfl (Nat.le_of_ble_eq_true rfl) rfl d_TP_init_137 (fun H locs hw => ?_)
  refine lv_aload_n hx hb d_TP_init_140 rfl (lv_at hl 0 rfl) ?_
  refine lv_iconst (v := (0 : Int32)) hx hb d_TP_init_141 (by decide +kernel) ?_
  refine tp_put (v := .int (0 : Int32)) (C := R_TP) (T := T_TP) (WS' := [(q_h, .inr (6, [.ref q_n5, .ref q_n16, .ref q_n27, .ref q_n38, .ref q_n53, .ref q_n76, .ref q_n99, .ref q_n118, .int (0 : Int32)])), (q_n5, .inr (3, [.ref q_n9_n8, .int (0 : Int32)])), (q_n9_n8, .inl (cB, 10000, .inl (fun _ => 0))), (q_n16, .inr (3, [.ref q_n20_n8, .int (0 : Int32)])), (q_n20_n8, .inl (cB, 10000, .inl (fun _ => 0))), (q_n27, .inr (3, [.ref q_n31_n8, .int (0 : Int32)])), (q_n31_n8, .inl (cB, 10000, .inl (fun _ => 0))), (q_n38, .inr (2, [.ref q_n5, .ref q_n46_n8, .ref q_n46_n17, .int (0 : Int32), .int (0 : Int32), .int (0 : Int32), .int (0 : Int32)])), (q_n46_n8, .inl (cI, 10000, .inl (fun _ => 0))), (q_n46_n17, .inl (cI, 2048, .inl (fun _ => 0))), (q_n53, .inr (1, [.ref q_n5, .ref q_n27, .ref q_n38])), (q_n76, .inr (5, [.ref q_n5, .ref q_n27, .ref q_n53])), (q_n99, .inr (0, [.ref q_n5, .ref q_n27, .int (0 : Int32), .int (0 : Int32), .int (0 : Int32), .long (0 : Int64), .int (0 : Int32), .int (0 : Int32)])), (q_n118, .inr (4, [.ref q_n5, .ref q_n27, .ref q_n99, .int (0 : Int32), .int (0 : Int32), .int (0 : Int32), .int (0 : Int32)]))]) hx hb hts fw_TP ty_TP ty_TP_ok nm_TP hown hw 0 rfl rfl 8 (by decide +kernel) (hts _ wd_234) rfl rfl rfl (Nat.le_of_ble_eq_true rfl) rfl d_TP_init_142 (fun H locs hw => ?_)
  exact tp_vret (q_n5, q_n9_n8, q_n16, q_n20_n8, q_n27, q_n31_n8, q_n38, q_n46_n8, q_n46_n17, q_n53, q_n76, q_n99, q_n118) hx hb hr hlocks hw d_TP_init_145
end
