abbrev rm_Row_fits : Room := { frames := 0, cells := 0, slots := 0, locals := 0 }
abbrev ws_Row_fits : List Cond := .code y_Row_fits c_Row_fits 1 (some .boolean) :: tpG
noncomputable def m_Row_fits (a_c : Int32) : Option (Int32) :=
  if (10000 : Int32) < a_c then
    some ((0 : Int32))
  else
    some ((1 : Int32))
section
variable {p : Program} {l : Launch} {e : Env} {s : State} {m : MethodId} {args : Array Value} {below : List Frame} {meth : Method} {c : Code} {A : Nat → Prop} {D : va_G} {cB cI : ClassId} {tM : Nat}
set_option maxHeartbeats 4000000 in
set_option maxRecDepth 100000 in
theorem ct_Row_fits {q_a q_aB : Nat} {a_c : Int32} {a_f : Nat → Int32} {r : Int32} (hm : m_Row_fits a_c = some (r)) (sz : Nat) : tp_Ci l y_Row_fits ws_Row_fits rm_Row_fits D (tp_ty cB cI) tM [.ref q_a] [(q_a, .inr (3, [.ref q_aB, .int a_c])), (q_aB, .inl (cB, 10000, .inl a_f))] sz r [(q_a, .inr (3, [.ref q_aB, .int a_c])), (q_aB, .inl (cB, 10000, .inl a_f))] := by
  refine Met.ofW (cc := c_Row_fits) (maxL := 1) (ret := (some .boolean)) (by decide) rfl ?_
  intro p e s m args below meth c s₁ B hml hv
  obtain ⟨rfl, hv⟩ := hv
  have hw := tp_entry hv
  generalize va_A [(q_a, .inr (3, [.ref q_aB, .int a_c])), (q_aB, .inl (cB, 10000, .inl a_f))] sz = A at hw ⊢
  have hx := B.exec
  have hb := B.bytes
  have hr := B.returns
  have hts0 := atoms_spec (ws := ws_Row_fits) B.pre
  have hts := fun w h => hts0 w (List.mem_cons_of_mem _ h)
  have hown : s.vm.findClass R_Row = some m.cls := findClass_of_methodNamed B.named
  have hlocks := B.notSynchronized
  have hF : CallFix p m c c_Row_fits 1 s _ tpG R_Row := ⟨hx, hb, hml, hown, hts⟩
  have hF2 : tp_F p m c c_Row_fits 1 s _ tpG R_Row meth (some .boolean) := ⟨hF, hr, hlocks⟩
  have hl := lv_entry ([.ref q_a]) (n := 1) (Nat.le_of_ble_eq_true rfl)
  rw [lg_entry_eq]
  generalize (lg_sl ([.ref q_a]) ++ List.replicate (1 - (lg_sl ([.ref q_a])).length) Slot.unset).toArray = ls at hl ⊢
  replace hl : lv_has ls 1 [(0, .ref q_a)] := hl
  unfold m_Row_fits at hm
  refine lv_aload_n hx hb d_Row_fits_0 rfl (lv_at hl 0 rfl) ?_
  refine tp_get (v := .int a_c) (C := R_Row) (T := T_Row) hx hb hts fw_Row hown hw 0 rfl rfl 1 (by decide +kernel) (hts _ wd_0) rfl d_Row_fits_1 ?_
  refine lv_sipush (v := (10000 : Int32)) hx hb d_Row_fits_4 (by decide +kernel) ?_
  refine lv_icmp_gt (tgt := 14) hx hb d_Row_fits_7 (by decide +kernel) (fun hc1 => ?_) (fun hc1 => ?_)
  · replace hm := tp_it hc1 hm
    refine lv_iconst (v := (0 : Int32)) hx hb d_Row_fits_14 (by decide +kernel) ?_
    obtain rfl := tp_inj1 hm
    exact tp_zret hx hb hr hlocks rfl hw d_Row_fits_15
  · replace hm := tp_if hc1 hm
    refine lv_iconst (v := (1 : Int32)) hx hb d_Row_fits_10 (by decide +kernel) ?_
    refine lv_goto (tgt := 15) hx hb d_Row_fits_11 (by decide +kernel) ?_
    obtain rfl := tp_inj1 hm
    exact tp_zret hx hb hr hlocks rfl hw d_Row_fits_15
end
abbrev rm_Row_at : Room := { frames := 0, cells := 0, slots := 0, locals := 0 }
abbrev ws_Row_at : List Cond := .code y_Row_at c_Row_at 2 (some .int) :: tpG
noncomputable def m_Row_at (x1 : Int32) (a_c : Int32) (a_f : Nat → Int32) : Option (Int32) :=
  if x1 < 0 then
    some ((-1 : Int32))
  else
    if a_c ≤ x1 then
      some ((-1 : Int32))
    else
      if (10000 : Int32) ≤ x1 then
        some ((-1 : Int32))
      else
        tp_gd (tp_inb x1 10000) <|
        some (((a_f (Int32.toNatClampNeg x1)) &&& (255 : Int32)))
section
variable {p : Program} {l : Launch} {e : Env} {s : State} {m : MethodId} {args : Array Value} {below : List Frame} {meth : Method} {c : Code} {A : Nat → Prop} {D : va_G} {cB cI : ClassId} {tM : Nat}
set_option maxHeartbeats 4000000 in
set_option maxRecDepth 100000 in
theorem ct_Row_at {q_a q_aB : Nat} {a_c : Int32} {a_f : Nat → Int32} {x1 : Int32} {r : Int32} (hm : m_Row_at x1 a_c a_f = some (r)) (sz : Nat) : tp_Ci l y_Row_at ws_Row_at rm_Row_at D (tp_ty cB cI) tM [.ref q_a, .int x1] [(q_a, .inr (3, [.ref q_aB, .int a_c])), (q_aB, .inl (cB, 10000, .inl a_f))] sz r [(q_a, .inr (3, [.ref q_aB, .int a_c])), (q_aB, .inl (cB, 10000, .inl a_f))] := by
  refine Met.ofW (cc := c_Row_at) (maxL := 2) (ret := (some .int)) (by decide) rfl ?_
  intro p e s m args below meth c s₁ B hml hv
  obtain ⟨rfl, hv⟩ := hv
  have hw := tp_entry hv
  generalize va_A [(q_a, .inr (3, [.ref q_aB, .int a_c])), (q_aB, .inl (cB, 10000, .inl a_f))] sz = A at hw ⊢
  have hx := B.exec
  have hb := B.bytes
  have hr := B.returns
  have hts0 := atoms_spec (ws := ws_Row_at) B.pre
  have hts := fun w h => hts0 w (List.mem_cons_of_mem _ h)
  have hown : s.vm.findClass R_Row = some m.cls := findClass_of_methodNamed B.named
  have hlocks := B.notSynchronized
  have hF : CallFix p m c c_Row_at 2 s _ tpG R_Row := ⟨hx, hb, hml, hown, hts⟩
  have hF2 : tp_F p m c c_Row_at 2 s _ tpG R_Row meth (some .int) := ⟨hF, hr, hlocks⟩
  have hl := lv_entry ([.ref q_a, .int x1]) (n := 2) (Nat.le_of_ble_eq_true rfl)
  rw [lg_entry_eq]
  generalize (lg_sl ([.ref q_a, .int x1]) ++ List.replicate (2 - (lg_sl ([.ref q_a, .int x1])).length) Slot.unset).toArray = ls at hl ⊢
  replace hl : lv_has ls 2 [(0, .ref q_a), (1, .int x1)] := hl
  unfold m_Row_at at hm
  refine lv_iload_n hx hb d_Row_at_0 rfl (lv_at hl 1 rfl) ?_
  refine lv_if_lt (tgt := 32) hx hb d_Row_at_1 (by decide +kernel) (fun hc1 => ?_) (fun hc1 => ?_)
  · replace hm := tp_it hc1 hm
    refine lv_iconst (v := (-1 : Int32)) hx hb d_Row_at_32 (by decide +kernel) ?_
    obtain rfl := tp_inj1 hm
    exact tp_iret hx hb hr hlocks hw d_Row_at_33
  · replace hm := tp_if hc1 hm
    refine lv_iload_n hx hb d_Row_at_4 rfl (lv_at hl 1 rfl) ?_
    refine lv_aload_n hx hb d_Row_at_5 rfl (lv_at hl 0 rfl) ?_
    refine tp_get (v := .int a_c) (C := R_Row) (T := T_Row) hx hb hts fw_Row hown hw 0 rfl rfl 1 (by decide +kernel) (hts _ wd_0) rfl d_Row_at_6 ?_
    refine lv_icmp_ge (tgt := 32) hx hb d_Row_at_9 (by decide +kernel) (fun hc2 => ?_) (fun hc2 => ?_)
    · replace hm := tp_it hc2 hm
      refine lv_iconst (v := (-1 : Int32)) hx hb d_Row_at_32 (by decide +kernel) ?_
      obtain rfl := tp_inj1 hm
      exact tp_iret hx hb hr hlocks hw d_Row_at_33
    · replace hm := tp_if hc2 hm
      refine lv_iload_n hx hb d_Row_at_12 rfl (lv_at hl 1 rfl) ?_
      refine lv_sipush (v := (10000 : Int32)) hx hb d_Row_at_13 (by decide +kernel) ?_
      refine lv_icmp_ge (tgt := 32) hx hb d_Row_at_16 (by decide +kernel) (fun hc3 => ?_) (fun hc3 => ?_)
      · replace hm := tp_it hc3 hm
        refine lv_iconst (v := (-1 : Int32)) hx hb d_Row_at_32 (by decide +kernel) ?_
        obtain rfl := tp_inj1 hm
        exact tp_iret hx hb hr hlocks hw d_Row_at_33
      · replace hm := tp_if hc3 hm
        refine lv_aload_n hx hb d_Row_at_19 rfl (lv_at hl 0 rfl) ?_
        refine tp_get (v := .ref q_aB) (C := R_Row) (T := T_Row) hx hb hts fw_Row hown hw 0 rfl rfl 0 (by decide +kernel) (hts _ wd_1) rfl d_Row_at_20 ?_
        refine lv_iload_n hx hb d_Row_at_23 rfl (lv_at hl 1 rfl) ?_
        obtain ⟨hi4, hm⟩ := tp_gd_e hm
        refine tp_bald hx hb hw 1 0 rfl rfl hi4 d_Row_at_24 ?_
        refine lv_sipush (v := (255 : Int32)) hx hb d_Row_at_25 (by decide +kernel) ?_
        refine lv_iand hx hb d_Row_at_28 ?_
        refine lv_goto (tgt := 33) hx hb d_Row_at_29 (by decide +kernel) ?_
        obtain rfl := tp_inj1 hm
        exact tp_iret hx hb hr hlocks hw d_Row_at_33
end
abbrev rm_Row_put : Room := { frames := 0, cells := 0, slots := 0, locals := 0 }
abbrev ws_Row_put : List Cond := .code y_Row_put c_Row_put 2 none :: tpG
noncomputable def m_Row_put (x1 : Int32) (a_c : Int32) (a_f : Nat → Int32) : Option (Int32 × (Nat → Int32)) :=
  if a_c < 0 then
    some ((a_c + (1 : Int32)), a_f)
  else
    if (10000 : Int32) ≤ a_c then
      some ((a_c + (1 : Int32)), a_f)
    else
      tp_gd (tp_inb a_c 10000) <|
      some ((a_c + (1 : Int32)), upd a_f (Int32.toNatClampNeg a_c) (vp_nar .byte (Int8.toInt32 (Int32.toInt8 x1))))
section
variable {p : Program} {l : Launch} {e : Env} {s : State} {m : MethodId} {args : Array Value} {below : List Frame} {meth : Method} {c : Code} {A : Nat → Prop} {D : va_G} {cB cI : ClassId} {tM : Nat}
set_option maxHeartbeats 4000000 in
set_option maxRecDepth 100000 in
theorem ct_Row_put {q_a q_aB : Nat} {a_c : Int32} {a_f : Nat → Int32} {x1 : Int32} {a_c' : Int32} {a_f' : Nat → Int32} (hm : m_Row_put x1 a_c a_f = some (a_c', a_f')) (sz : Nat) : tp_Cv l y_Row_put ws_Row_put rm_Row_put D (tp_ty cB cI) tM [.ref q_a, .int x1] [(q_a, .inr (3, [.ref q_aB, .int a_c])), (q_aB, .inl (cB, 10000, .inl a_f))] sz [(q_a, .inr (3, [.ref q_aB, .int a_c'])), (q_aB, .inl (cB, 10000, .inl a_f'))] := by
  refine Met.ofW (cc := c_Row_put) (maxL := 2) (ret := none) (by decide) rfl ?_
  intro p e s m args below meth c s₁ B hml hv
  obtain ⟨rfl, hv⟩ := hv
  have hw := tp_entry hv
  generalize va_A [(q_a, .inr (3, [.ref q_aB, .int a_c])), (q_aB, .inl (cB, 10000, .inl a_f))] sz = A at hw ⊢
  have hx := B.exec
  have hb := B.bytes
  have hr := B.returns
  have hts0 := atoms_spec (ws := ws_Row_put) B.pre
  have hts := fun w h => hts0 w (List.mem_cons_of_mem _ h)
  have hown : s.vm.findClass R_Row = some m.cls := findClass_of_methodNamed B.named
  have hlocks := B.notSynchronized
  have hF : CallFix p m c c_Row_put 2 s _ tpG R_Row := ⟨hx, hb, hml, hown, hts⟩
  have hF2 : tp_F p m c c_Row_put 2 s _ tpG R_Row meth none := ⟨hF, hr, hlocks⟩
  have hl := lv_entry ([.ref q_a, .int x1]) (n := 2) (Nat.le_of_ble_eq_true rfl)
  rw [lg_entry_eq]
  generalize (lg_sl ([.ref q_a, .int x1]) ++ List.replicate (2 - (lg_sl ([.ref q_a, .int x1])).length) Slot.unset).toArray = ls at hl ⊢
  replace hl : lv_has ls 2 [(0, .ref q_a), (1, .int x1)] := hl
  unfold m_Row_put at hm
  refine lv_aload_n hx hb d_Row_put_0 rfl (lv_at hl 0 rfl) ?_
  refine tp_get (v := .int a_c) (C := R_Row) (T := T_Row) hx hb hts fw_Row hown hw 0 rfl rfl 1 (by decide +kernel) (hts _ wd_0) rfl d_Row_put_1 ?_
  refine lv_if_lt (tgt := 28) hx hb d_Row_put_4 (by decide +kernel) (fun hc1 => ?_) (fun hc1 => ?_)
  · replace hm := tp_it hc1 hm
    refine lv_aload_n hx hb d_Row_put_28 rfl (lv_at hl 0 rfl) ?_
    refine lv_dup hx hb d_Row_put_29 rfl ?_
    refine tp_get (v := .int a_c) (C := R_Row) (T := T_Row) hx hb hts fw_Row hown hw 0 rfl rfl 1 (by decide +kernel) (hts _ wd_0) rfl d_Row_put_30 ?_
    refine lv_iconst (v := (1 : Int32)) hx hb d_Row_put_33 (by decide +kernel) ?_
    refine lv_iadd hx hb d_Row_put_34 ?_
    refine tp_put (v := .int (a_c + (1 : Int32))) (C := R_Row) (T := T_Row) (WS' := [(q_a, .inr (3, [.ref q_aB, .int (a_c + (1 : Int32))])), (q_aB, .inl (cB, 10000, .inl a_f))]) hx hb hts fw_Row ty_Row ty_Row_ok nm_Row hown hw 0 rfl rfl 1 (by decide +kernel) (hts _ wd_0) rfl rfl rfl (Nat.le_of_ble_eq_true rfl) rfl d_Row_put_35 (fun H locs hw => ?_)
    obtain ⟨rfl, rfl⟩ := tp_inj2 hm
    exact tp_vret () hx hb hr hlocks hw d_Row_put_38
  · replace hm := tp_if hc1 hm
    refine lv_aload_n hx hb d_Row_put_7 rfl (lv_at hl 0 rfl) ?_
    refine tp_get (v := .int a_c) (C := R_Row) (T := T_Row) hx hb hts fw_Row hown hw 0 rfl rfl 1 (by decide +kernel) (hts _ wd_0) rfl d_Row_put_8 ?_
    refine lv_sipush (v := (10000 : Int32)) hx hb d_Row_put_11 (by decide +kernel) ?_
    refine lv_icmp_ge (tgt := 28) hx hb d_Row_put_14 (by decide +kernel) (fun hc2 => ?_) (fun hc2 => ?_)
    · replace hm := tp_it hc2 hm
      refine lv_aload_n hx hb d_Row_put_28 rfl (lv_at hl 0 rfl) ?_
      refine lv_dup hx hb d_Row_put_29 rfl ?_
      refine tp_get (v := .int a_c) (C := R_Row) (T := T_Row) hx hb hts fw_Row hown hw 0 rfl rfl 1 (by decide +kernel) (hts _ wd_0) rfl d_Row_put_30 ?_
      refine lv_iconst (v := (1 : Int32)) hx hb d_Row_put_33 (by decide +kernel) ?_
      refine lv_iadd hx hb d_Row_put_34 ?_
      refine tp_put (v := .int (a_c + (1 : Int32))) (C := R_Row) (T := T_Row) (WS' := [(q_a, .inr (3, [.ref q_aB, .int (a_c + (1 : Int32))])), (q_aB, .inl (cB, 10000, .inl a_f))]) hx hb hts fw_Row ty_Row ty_Row_ok nm_Row hown hw 0 rfl rfl 1 (by decide +kernel) (hts _ wd_0) rfl rfl rfl (Nat.le_of_ble_eq_true rfl) rfl d_Row_put_35 (fun H locs hw => ?_)
      obtain ⟨rfl, rfl⟩ := tp_inj2 hm
      exact tp_vret () hx hb hr hlocks hw d_Row_put_38
    · replace hm := tp_if hc2 hm
      refine lv_aload_n hx hb d_Row_put_17 rfl (lv_at hl 0 rfl) ?_
      refine tp_get (v := .ref q_aB) (C := R_Row) (T := T_Row) hx hb hts fw_Row hown hw 0 rfl rfl 0 (by decide +kernel) (hts _ wd_1) rfl d_Row_put_18 ?_
      refine lv_aload_n hx hb d_Row_put_21 rfl (lv_at hl 0 rfl) ?_
      refine tp_get (v := .int a_c) (C := R_Row) (T := T_Row) hx hb hts fw_Row hown hw 0 rfl rfl 1 (by decide +kernel) (hts _ wd_0) rfl d_Row_put_22 ?_
      refine lv_iload_n hx hb d_Row_put_25 rfl (lv_at hl 1 rfl) ?_
      refine lv_i2b (v := (Int8.toInt32 (Int32.toInt8 x1))) hx hb d_Row_put_26 rfl ?_
      obtain ⟨hi3, hm⟩ := tp_gd_e hm
      refine tp_bast (WS' := [(q_a, .inr (3, [.ref q_aB, .int a_c])), (q_aB, .inl (cB, 10000, .inl (upd a_f (Int32.toNatClampNeg a_c) (vp_nar .byte (Int8.toInt32 (Int32.toInt8 x1))))))]) hx hb hw 1 0 rfl rfl hi3 rfl d_Row_put_27 (fun H locs hw => ?_)
      refine lv_aload_n hx hb d_Row_put_28 rfl (lv_at hl 0 rfl) ?_
      refine lv_dup hx hb d_Row_put_29 rfl ?_
      refine tp_get (v := .int a_c) (C := R_Row) (T := T_Row) hx hb hts fw_Row hown hw 0 rfl rfl 1 (by decide +kernel) (hts _ wd_0) rfl d_Row_put_30 ?_
      refine lv_iconst (v := (1 : Int32)) hx hb d_Row_put_33 (by decide +kernel) ?_
      refine lv_iadd hx hb d_Row_put_34 ?_
      refine tp_put (v := .int (a_c + (1 : Int32))) (C := R_Row) (T := T_Row) (WS' := [(q_a, .inr (3, [.ref q_aB, .int (a_c + (1 : Int32))])), (q_aB, .inl (cB, 10000, .inl (upd a_f (Int32.toNatClampNeg a_c) (vp_nar .byte (Int8.toInt32 (Int32.toInt8 x1))))))]) hx hb hts fw_Row ty_Row ty_Row_ok nm_Row hown hw 0 rfl rfl 1 (by decide +kernel) (hts _ wd_0) rfl rfl rfl (Nat.le_of_ble_eq_true rfl) rfl d_Row_put_35 (fun H locs hw => ?_)
      obtain ⟨rfl, rfl⟩ := tp_inj2 hm
      exact tp_vret () hx hb hr hlocks hw d_Row_put_38
end
abbrev rm_Row_set : Room := { frames := 0, cells := 0, slots := 0, locals := 0 }
abbrev ws_Row_set : List Cond := .code y_Row_set c_Row_set 3 none :: tpG
noncomputable def m_Row_set (x1 : Int32) (x2 : Int32) (a_f : Nat → Int32) : Option ((Nat → Int32)) :=
  if x1 < 0 then
    some (a_f)
  else
    if (10000 : Int32) ≤ x1 then
      some (a_f)
    else
      tp_gd (tp_inb x1 10000) <|
      some (upd a_f (Int32.toNatClampNeg x1) (vp_nar .byte (Int8.toInt32 (Int32.toInt8 x2))))
section
variable {p : Program} {l : Launch} {e : Env} {s : State} {m : MethodId} {args : Array Value} {below : List Frame} {meth : Method} {c : Code} {A : Nat → Prop} {D : va_G} {cB cI : ClassId} {tM : Nat}
set_option maxHeartbeats 4000000 in
set_option maxRecDepth 100000 in
theorem ct_Row_set {q_a q_aB : Nat} {a_c : Int32} {a_f : Nat → Int32} {x1 : Int32} {x2 : Int32} {a_f' : Nat → Int32} (hm : m_Row_set x1 x2 a_f = some (a_f')) (sz : Nat) : tp_Cv l y_Row_set ws_Row_set rm_Row_set D (tp_ty cB cI) tM [.ref q_a, .int x1, .int x2] [(q_a, .inr (3, [.ref q_aB, .int a_c])), (q_aB, .inl (cB, 10000, .inl a_f))] sz [(q_a, .inr (3, [.ref q_aB, .int a_c])), (q_aB, .inl (cB, 10000, .inl a_f'))] := by
  refine Met.ofW (cc := c_Row_set) (maxL := 3) (ret := none) (by decide) rfl ?_
  intro p e s m args below meth c s₁ B hml hv
  obtain ⟨rfl, hv⟩ := hv
  have hw := tp_entry hv
  generalize va_A [(q_a, .inr (3, [.ref q_aB, .int a_c])), (q_aB, .inl (cB, 10000, .inl a_f))] sz = A at hw ⊢
  have hx := B.exec
  have hb := B.bytes
  have hr := B.returns
  have hts0 := atoms_spec (ws := ws_Row_set) B.pre
  have hts := fun w h => hts0 w (List.mem_cons_of_mem _ h)
  have hown : s.vm.findClass R_Row = some m.cls := findClass_of_methodNamed B.named
  have hlocks := B.notSynchronized
  have hF : CallFix p m c c_Row_set 3 s _ tpG R_Row := ⟨hx, hb, hml, hown, hts⟩
  have hF2 : tp_F p m c c_Row_set 3 s _ tpG R_Row meth none := ⟨hF, hr, hlocks⟩
  have hl := lv_entry ([.ref q_a, .int x1, .int x2]) (n := 3) (Nat.le_of_ble_eq_true rfl)
  rw [lg_entry_eq]
  generalize (lg_sl ([.ref q_a, .int x1, .int x2]) ++ List.replicate (3 - (lg_sl ([.ref q_a, .int x1, .int x2])).length) Slot.unset).toArray = ls at hl ⊢
  replace hl : lv_has ls 3 [(0, .ref q_a), (1, .int x1), (2, .int x2)] := hl
  unfold m_Row_set at hm
  refine lv_iload_n hx hb d_Row_set_0 rfl (lv_at hl 1 rfl) ?_
  refine lv_if_lt (tgt := 19) hx hb d_Row_set_1 (by decide +kernel) (fun hc1 => ?_) (fun hc1 => ?_)
  · replace hm := tp_it hc1 hm
    obtain rfl := tp_inj1 hm
    exact tp_vret () hx hb hr hlocks hw d_Row_set_19
  · replace hm := tp_if hc1 hm
    refine lv_iload_n hx hb d_Row_set_4 rfl (lv_at hl 1 rfl) ?_
    refine lv_sipush (v := (10000 : Int32)) hx hb d_Row_set_5 (by decide +kernel) ?_
    refine lv_icmp_ge (tgt := 19) hx hb d_Row_set_8 (by decide +kernel) (fun hc2 => ?_) (fun hc2 => ?_)
    · replace hm := tp_it hc2 hm
      obtain rfl := tp_inj1 hm
      exact tp_vret () hx hb hr hlocks hw d_Row_set_19
    · replace hm := tp_if hc2 hm
      refine lv_aload_n hx hb d_Row_set_11 rfl (lv_at hl 0 rfl) ?_
      refine tp_get (v := .ref q_aB) (C := R_Row) (T := T_Row) hx hb hts fw_Row hown hw 0 rfl rfl 0 (by decide +kernel) (hts _ wd_1) rfl d_Row_set_12 ?_
      refine lv_iload_n hx hb d_Row_set_15 rfl (lv_at hl 1 rfl) ?_
      refine lv_iload_n hx hb d_Row_set_16 rfl (lv_at hl 2 rfl) ?_
      refine lv_i2b (v := (Int8.toInt32 (Int32.toInt8 x2))) hx hb d_Row_set_17 rfl ?_
      obtain ⟨hi3, hm⟩ := tp_gd_e hm
      refine tp_bast (WS' := [(q_a, .inr (3, [.ref q_aB, .int a_c])), (q_aB, .inl (cB, 10000, .inl (upd a_f (Int32.toNatClampNeg x1) (vp_nar .byte (Int8.toInt32 (Int32.toInt8 x2))))))]) hx hb hw 1 0 rfl rfl hi3 rfl d_Row_set_18 (fun H locs hw => ?_)
      obtain rfl := tp_inj1 hm
      exact tp_vret () hx hb hr hlocks hw d_Row_set_19
end
abbrev rm_Row_putNumber : Room := { frames := 1, cells := 0, slots := 0, locals := 21 }
abbrev ws_Row_putNumber : List Cond := .code y_Row_putNumber c_Row_putNumber 4 none :: tpG
noncomputable def m_Row_putNumber_2 (N : Nat) (rec2 : Int32 → Int32 → Int32 → Int32 → (Nat → Int32) → Option (Int32 × (Nat → Int32))) (x1 : Int32) (x2 : Int32) (x3 : Int32) (a_c : Int32) (a_f : Nat → Int32) : Option (Int32 × (Nat → Int32)) :=
  if x2 ≤ x3 then
    some (a_c, a_f)
  else
    tp_b2 (m_Row_put (tp_ushr x1 ((8 : Int32) * x3)) a_c a_f) fun a_c_2 a_f_3 =>
    rec2 x1 x2 (x3 + (1 : Int32)) a_c_2 a_f_3
noncomputable def m_Row_putNumber (N : Nat) (x1 : Int32) (x2 : Int32) (a_c : Int32) (a_f : Nat → Int32) : Option (Int32 × (Nat → Int32)) :=
  tp_it5 (m_Row_putNumber_2 N ) N x1 x2 (0 : Int32) a_c a_f
section
variable {p : Program} {l : Launch} {e : Env} {s : State} {m : MethodId} {args : Array Value} {below : List Frame} {meth : Method} {c : Code} {A : Nat → Prop} {D : va_G} {cB cI : ClassId} {tM : Nat}
set_option maxHeartbeats 4000000 in
set_option maxRecDepth 100000 in
theorem w_Row_putNumber_2 {q_a q_aB : Nat} {N : Nat} {a_c' : Int32} {a_f' : Nat → Int32} (hF2 : tp_F p m c c_Row_putNumber 4 s args tpG R_Row meth none) : ∀ (n : Nat), ∀ (x1 : Int32) (x2 : Int32) (x3 : Int32) (a_c : Int32) (a_f : Nat → Int32) (H : Heap) (locs : List Loc) (ls : Array Slot), tp_it5 (m_Row_putNumber_2 N ) n x1 x2 x3 a_c a_f = some (a_c', a_f') → tp_Wd D (tp_ty cB cI) tM A s H locs [(q_a, .inr (3, [.ref q_aB, .int a_c])), (q_aB, .inl (cB, 10000, .inl a_f))] → lv_has ls 4 [(0, .ref q_a), (1, .int x1), (2, .int x2), (3, .int x3)] → W p l e rm_Row_putNumber s m args below meth c H locs 0 0 (MQ below (tp_Qv (S := Unit) D A (fun _ => [(q_a, .inr (3, [.ref q_aB, .int a_c'])), (q_aB, .inl (cB, 10000, .inl a_f'))])) args s 0 0 A) (F0 m 2 ls []) := by
  obtain ⟨hF, hr, hlocks⟩ := id hF2
  obtain ⟨hx, hb, hml, hown, hts⟩ := id hF
  intro n
  induction n with
  | zero => intro x1 x2 x3 a_c a_f H locs ls hm; exact absurd hm (by simp [tp_it5])
  | succ n ih2 =>
    intro x1 x2 x3 a_c a_f H locs ls hm hw hl
    replace hm : m_Row_putNumber_2 N  (tp_it5 (m_Row_putNumber_2 N ) n) x1 x2 x3 a_c a_f = some (a_c', a_f') := hm
    unfold m_Row_putNumber_2 at hm
    refine lv_iload_n hx hb d_Row_putNumber_2 rfl (lv_at hl 3 rfl) ?_
    refine lv_iload_n hx hb d_Row_putNumber_3 rfl (lv_at hl 2 rfl) ?_
    refine lv_icmp_ge (tgt := 23) hx hb d_Row_putNumber_4 (by decide +kernel) (fun hc1 => ?_) (fun hc1 => ?_)
    · replace hm := tp_it hc1 hm
      obtain ⟨rfl, rfl⟩ := tp_inj2 hm
      exact tp_vret () hx hb hr hlocks hw d_Row_putNumber_23
    · replace hm := tp_if hc1 hm
      refine lv_aload_n hx hb d_Row_putNumber_7 rfl (lv_at hl 0 rfl) ?_
      refine lv_iload_n hx hb d_Row_putNumber_8 rfl (lv_at hl 1 rfl) ?_
      refine lv_bipush (v := (8 : Int32)) hx hb d_Row_putNumber_9 (by decide +kernel) ?_
      refine lv_iload_n hx hb d_Row_putNumber_11 rfl (lv_at hl 3 rfl) ?_
      refine lv_imul hx hb d_Row_putNumber_12 ?_
      refine lv_iushr (v := (tp_ushr x1 ((8 : Int32) * x3))) hx hb d_Row_putNumber_13 rfl ?_
      obtain ⟨a_c_2, a_f_3, hm4, hm⟩ := tp_b2_e hm
      refine tp_callv (wr := []) (WS' := [(q_a, .inr (3, [.ref q_aB, .int a_c_2])), (q_aB, .inl (cB, 10000, .inl a_f_3))]) (va_runV (As := [.int (tp_ushr x1 ((8 : Int32) * x3))]) (rest := []) hF (ct_Row_put (l := l) (D := D) (cB := cB) (cI := cI) (tM := tM) (q_a := q_a) (q_aB := q_aB) (a_c := a_c) (a_f := a_f) (x1 := (tp_ushr x1 ((8 : Int32) * x3))) (a_c' := a_c_2) (a_f' := a_f_3) hm4 _) (cwV 1 hts (tpG_V wd_4 wd_5 wd_6 wd_3 wd_2) rfl rfl rfl ⟨rfl, yd_Row_put⟩ ⟨Nat.le_of_ble_eq_true rfl, Nat.le_of_ble_eq_true rfl⟩) ⟨tp_blind, va_recv hw.1 hw.2.1 (ci := 3) (q0 := 0) rfl rfl, tp_pre hw [0, 1] rfl rfl⟩ rfl rfl hl.1 rfl (lv_room (Nat.le_of_ble_eq_true rfl)) d_Row_putNumber_14 ⟨Nat.le_of_ble_eq_true rfl, Nat.le_of_ble_eq_true rfl⟩) hw [0, 1] [] [0, 1] rfl rfl rfl (by decide) rfl rfl (fun H locs hw => ?_)
      refine lv_iinc (v := (x3 + (1 : Int32))) (lv' := [(3, .int (x3 + (1 : Int32))), (0, .ref q_a), (1, .int x1), (2, .int x2)]) hx hb d_Row_putNumber_17 hl (k := 3) rfl rfl (by decide +kernel) rfl (fun ls hl => ?_)
      refine lv_goto (tgt := 2) hx hb d_Row_putNumber_20 (by decide +kernel) ?_
      exact ih2 _ _ _ _ _ _ _ _ hm hw (lv_sub hl [1, 2, 3, 0] rfl)
set_option maxHeartbeats 4000000 in
set_option maxRecDepth 100000 in
theorem ct_Row_putNumber {q_a q_aB : Nat} {a_c : Int32} {a_f : Nat → Int32} {N : Nat} {x1 : Int32} {x2 : Int32} {a_c' : Int32} {a_f' : Nat → Int32} (hm : m_Row_putNumber N x1 x2 a_c a_f = some (a_c', a_f')) (sz : Nat) : tp_Cv l y_Row_putNumber ws_Row_putNumber rm_Row_putNumber D (tp_ty cB cI) tM [.ref q_a, .int x1, .int x2] [(q_a, .inr (3, [.ref q_aB, .int a_c])), (q_aB, .inl (cB, 10000, .inl a_f))] sz [(q_a, .inr (3, [.ref q_aB, .int a_c'])), (q_aB, .inl (cB, 10000, .inl a_f'))] := by
  refine Met.ofW (cc := c_Row_putNumber) (maxL := 4) (ret := none) (by decide) rfl ?_
  intro p e s m args below meth c s₁ B hml hv
  obtain ⟨rfl, hv⟩ := hv
  have hw := tp_entry hv
  generalize va_A [(q_a, .inr (3, [.ref q_aB, .int a_c])), (q_aB, .inl (cB, 10000, .inl a_f))] sz = A at hw ⊢
  have hx := B.exec
  have hb := B.bytes
  have hr := B.returns
  have hts0 := atoms_spec (ws := ws_Row_putNumber) B.pre
  have hts := fun w h => hts0 w (List.mem_cons_of_mem _ h)
  have hown : s.vm.findClass R_Row = some m.cls := findClass_of_methodNamed B.named
  have hlocks := B.notSynchronized
  have hF : CallFix p m c c_Row_putNumber 4 s _ tpG R_Row := ⟨hx, hb, hml, hown, hts⟩
  have hF2 : tp_F p m c c_Row_putNumber 4 s _ tpG R_Row meth none := ⟨hF, hr, hlocks⟩
  have hl := lv_entry ([.ref q_a, .int x1, .int x2]) (n := 4) (Nat.le_of_ble_eq_true rfl)
  rw [lg_entry_eq]
  generalize (lg_sl ([.ref q_a, .int x1, .int x2]) ++ List.replicate (4 - (lg_sl ([.ref q_a, .int x1, .int x2])).length) Slot.unset).toArray = ls at hl ⊢
  replace hl : lv_has ls 4 [(0, .ref q_a), (1, .int x1), (2, .int x2)] := hl
  unfold m_Row_putNumber at hm
  refine lv_iconst (v := (0 : Int32)) hx hb d_Row_putNumber_0 (by decide +kernel) ?_
  refine lv_istore_n (lv' := [(3, .int (0 : Int32)), (0, .ref q_a), (1, .int x1), (2, .int x2)]) hx hb d_Row_putNumber_1 rfl hl (by decide +kernel) rfl (fun ls hl => ?_)
  exact w_Row_putNumber_2 hF2  N _ _ _ _ _ _ _ _ hm hw (lv_sub hl [1, 2, 3, 0] rfl)
end
abbrev rm_Row_setNumber : Room := { frames := 1, cells := 0, slots := 0, locals := 22 }
abbrev ws_Row_setNumber : List Cond := .code y_Row_setNumber c_Row_setNumber 5 none :: tpG
noncomputable def m_Row_setNumber_3 (N : Nat) (rec3 : Int32 → Int32 → Int32 → Int32 → (Nat → Int32) → Option ((Nat → Int32))) (x1 : Int32) (x2 : Int32) (x3 : Int32) (x4 : Int32) (a_f : Nat → Int32) : Option ((Nat → Int32)) :=
  if x3 ≤ x4 then
    some (a_f)
  else
    tp_b1 (m_Row_set (x1 + x4) (tp_ushr x2 ((8 : Int32) * x4)) a_f) fun a_f_2 =>
    rec3 x1 x2 x3 (x4 + (1 : Int32)) a_f_2
noncomputable def m_Row_setNumber (N : Nat) (x1 : Int32) (x2 : Int32) (x3 : Int32) (a_f : Nat → Int32) : Option ((Nat → Int32)) :=
  tp_it5 (m_Row_setNumber_3 N ) N x1 x2 x3 (0 : Int32) a_f
section
variable {p : Program} {l : Launch} {e : Env} {s : State} {m : MethodId} {args : Array Value} {below : List Frame} {meth : Method} {c : Code} {A : Nat → Prop} {D : va_G} {cB cI : ClassId} {tM : Nat}
set_option maxHeartbeats 4000000 in
set_option maxRecDepth 100000 in
theorem w_Row_setNumber_3 {q_a q_aB : Nat} {a_c : Int32} {N : Nat} {a_f' : Nat → Int32} (hF2 : tp_F p m c c_Row_setNumber 5 s args tpG R_Row meth none) : ∀ (n : Nat), ∀ (x1 : Int32) (x2 : Int32) (x3 : Int32) (x4 : Int32) (a_f : Nat → Int32) (H : Heap) (locs : List Loc) (ls : Array Slot), tp_it5 (m_Row_setNumber_3 N ) n x1 x2 x3 x4 a_f = some (a_f') → tp_Wd D (tp_ty cB cI) tM A s H locs [(q_a, .inr (3, [.ref q_aB, .int a_c])), (q_aB, .inl (cB, 10000, .inl a_f))] → lv_has ls 5 [(0, .ref q_a), (1, .int x1), (2, .int x2), (3, .int x3), (4, .int x4)] → W p l e rm_Row_setNumber s m args below meth c H locs 0 0 (MQ below (tp_Qv (S := Unit) D A (fun _ => [(q_a, .inr (3, [.ref q_aB, .int a_c])), (q_aB, .inl (cB, 10000, .inl a_f'))])) args s 0 0 A) (F0 m 3 ls []) := by
  obtain ⟨hF, hr, hlocks⟩ := id hF2
  obtain ⟨hx, hb, hml, hown, hts⟩ := id hF
  intro n
  induction n with
  | zero => intro x1 x2 x3 x4 a_f H locs ls hm; exact absurd hm (by simp [tp_it5])
  | succ n ih3 =>
    intro x1 x2 x3 x4 a_f H locs ls hm hw hl
    replace hm : m_Row_setNumber_3 N  (tp_it5 (m_Row_setNumber_3 N ) n) x1 x2 x3 x4 a_f = some (a_f') := hm
    unfold m_Row_setNumber_3 at hm
    refine lv_iload hx hb d_Row_setNumber_3 (lv_at hl 4 rfl) ?_
    refine lv_iload_n hx hb d_Row_setNumber_5 rfl (lv_at hl 3 rfl) ?_
    refine lv_icmp_ge (tgt := 30) hx hb d_Row_setNumber_6 (by decide +kernel) (fun hc1 => ?_) (fun hc1 => ?_)
    · replace hm := tp_it hc1 hm
      obtain rfl := tp_inj1 hm
      exact tp_vret () hx hb hr hlocks hw d_Row_setNumber_30
    · replace hm := tp_if hc1 hm
      refine lv_aload_n hx hb d_Row_setNumber_9 rfl (lv_at hl 0 rfl) ?_
      refine lv_iload_n hx hb d_Row_setNumber_10 rfl (lv_at hl 1 rfl) ?_
      refine lv_iload hx hb d_Row_setNumber_11 (lv_at hl 4 rfl) ?_
      refine lv_iadd hx hb d_Row_setNumber_13 ?_
      refine lv_iload_n hx hb d_Row_setNumber_14 rfl (lv_at hl 2 rfl) ?_
      refine lv_bipush (v := (8 : Int32)) hx hb d_Row_setNumber_15 (by decide +kernel) ?_
      refine lv_iload hx hb d_Row_setNumber_17 (lv_at hl 4 rfl) ?_
      refine lv_imul hx hb d_Row_setNumber_19 ?_
      refine lv_iushr (v := (tp_ushr x2 ((8 : Int32) * x4))) hx hb d_Row_setNumber_20 rfl ?_
      obtain ⟨a_f_2, hm3, hm⟩ := tp_b1_e hm
      refine tp_callv (wr := []) (WS' := [(q_a, .inr (3, [.ref q_aB, .int a_c])), (q_aB, .inl (cB, 10000, .inl a_f_2))]) (va_runV (As := [.int (x1 + x4), .int (tp_ushr x2 ((8 : Int32) * x4))]) (rest := []) hF (ct_Row_set (l := l) (D := D) (cB := cB) (cI := cI) (tM := tM) (q_a := q_a) (q_aB := q_aB) (a_c := a_c) (a_f := a_f) (x1 := (x1 + x4)) (x2 := (tp_ushr x2 ((8 : Int32) * x4))) (a_f' := a_f_2) hm3 _) (cwV 2 hts (tpG_V wd_8 wd_9 wd_10 wd_3 wd_7) rfl rfl rfl ⟨rfl, yd_Row_set⟩ ⟨Nat.le_of_ble_eq_true rfl, Nat.le_of_ble_eq_true rfl⟩) ⟨tp_blind, va_recv hw.1 hw.2.1 (ci := 3) (q0 := 0) rfl rfl, tp_pre hw [0, 1] rfl rfl⟩ rfl rfl hl.1 rfl (lv_room (Nat.le_of_ble_eq_true rfl)) d_Row_setNumber_21 ⟨Nat.le_of_ble_eq_true rfl, Nat.le_of_ble_eq_true rfl⟩) hw [0, 1] [] [0, 1] rfl rfl rfl (by decide) rfl rfl (fun H locs hw => ?_)
      refine lv_iinc (v := (x4 + (1 : Int32))) (lv' := [(4, .int (x4 + (1 : Int32))), (0, .ref q_a), (1, .int x1), (2, .int x2), (3, .int x3)]) hx hb d_Row_setNumber_24 hl (k := 4) rfl rfl (by decide +kernel) rfl (fun ls hl => ?_)
      refine lv_goto (tgt := 3) hx hb d_Row_setNumber_27 (by decide +kernel) ?_
      exact ih3 _ _ _ _ _ _ _ _ hm hw (lv_sub hl [1, 2, 3, 4, 0] rfl)
set_option maxHeartbeats 4000000 in
set_option maxRecDepth 100000 in
theorem ct_Row_setNumber {q_a q_aB : Nat} {a_c : Int32} {a_f : Nat → Int32} {N : Nat} {x1 : Int32} {x2 : Int32} {x3 : Int32} {a_f' : Nat → Int32} (hm : m_Row_setNumber N x1 x2 x3 a_f = some (a_f')) (sz : Nat) : tp_Cv l y_Row_setNumber ws_Row_setNumber rm_Row_setNumber D (tp_ty cB cI) tM [.ref q_a, .int x1, .int x2, .int x3] [(q_a, .inr (3, [.ref q_aB, .int a_c])), (q_aB, .inl (cB, 10000, .inl a_f))] sz [(q_a, .inr (3, [.ref q_aB, .int a_c])), (q_aB, .inl (cB, 10000, .inl a_f'))] := by
  refine Met.ofW (cc := c_Row_setNumber) (maxL := 5) (ret := none) (by decide) rfl ?_
  intro p e s m args below meth c s₁ B hml hv
  obtain ⟨rfl, hv⟩ := hv
  have hw := tp_entry hv
  generalize va_A [(q_a, .inr (3, [.ref q_aB, .int a_c])), (q_aB, .inl (cB, 10000, .inl a_f))] sz = A at hw ⊢
  have hx := B.exec
  have hb := B.bytes
  have hr := B.returns
  have hts0 := atoms_spec (ws := ws_Row_setNumber) B.pre
  have hts := fun w h => hts0 w (List.mem_cons_of_mem _ h)
  have hown : s.vm.findClass R_Row = some m.cls := findClass_of_methodNamed B.named
  have hlocks := B.notSynchronized
  have hF : CallFix p m c c_Row_setNumber 5 s _ tpG R_Row := ⟨hx, hb, hml, hown, hts⟩
  have hF2 : tp_F p m c c_Row_setNumber 5 s _ tpG R_Row meth none := ⟨hF, hr, hlocks⟩
  have hl := lv_entry ([.ref q_a, .int x1, .int x2, .int x3]) (n := 5) (Nat.le_of_ble_eq_true rfl)
  rw [lg_entry_eq]
  generalize (lg_sl ([.ref q_a, .int x1, .int x2, .int x3]) ++ List.replicate (5 - (lg_sl ([.ref q_a, .int x1, .int x2, .int x3])).length) Slot.unset).toArray = ls at hl ⊢
  replace hl : lv_has ls 5 [(0, .ref q_a), (1, .int x1), (2, .int x2), (3, .int x3)] := hl
  unfold m_Row_setNumber at hm
  refine lv_iconst (v := (0 : Int32)) hx hb d_Row_setNumber_0 (by decide +kernel) ?_
  refine lv_istore (lv' := [(4, .int (0 : Int32)), (0, .ref q_a), (1, .int x1), (2, .int x2), (3, .int x3)]) hx hb d_Row_setNumber_1 hl (by decide +kernel) rfl (fun ls hl => ?_)
  exact w_Row_setNumber_3 hF2  N _ _ _ _ _ _ _ _ hm hw (lv_sub hl [1, 2, 3, 4, 0] rfl)
end
abbrev rm_Row_numberAt : Room := { frames := 1, cells := 0, slots := 0, locals := 21 }
abbrev ws_Row_numberAt : List Cond := .code y_Row_numberAt c_Row_numberAt 6 (some .long) :: tpG
noncomputable def m_Row_numberAt_5 (N : Nat) (a_c : Int32) (a_f : Nat → Int32) (rec5 : Int32 → Int32 → Int64 → Int32 → Option (Int64)) (x1 : Int32) (x2 : Int32) (x3 : Int64) (x5 : Int32) : Option (Int64) :=
  if x2 ≤ x5 then
    some (x3)
  else
    tp_b1 (m_Row_at (x1 + x5) a_c a_f) fun r2 =>
    tp_b0 (x3 ||| ((Int32.toInt64 (r2 &&& (255 : Int32))) <<< (Int32.toInt64 ((8 : Int32) * x5) &&& 63))) fun y4 =>
    rec5 x1 x2 y4 (x5 + (1 : Int32))
noncomputable def m_Row_numberAt (N : Nat) (x1 : Int32) (x2 : Int32) (a_c : Int32) (a_f : Nat → Int32) : Option (Int64) :=
  tp_it4 (m_Row_numberAt_5 N a_c a_f ) N x1 x2 (0 : Int64) (0 : Int32)
section
variable {p : Program} {l : Launch} {e : Env} {s : State} {m : MethodId} {args : Array Value} {below : List Frame} {meth : Method} {c : Code} {A : Nat → Prop} {D : va_G} {cB cI : ClassId} {tM : Nat}
set_option maxHeartbeats 4000000 in
set_option maxRecDepth 100000 in
theorem w_Row_numberAt_5 {q_a q_aB : Nat} {a_c : Int32} {a_f : Nat → Int32} {N : Nat} {r : Int64} (hF2 : tp_F p m c c_Row_numberAt 6 s args tpG R_Row meth (some .long)) : ∀ (n : Nat), ∀ (x1 : Int32) (x2 : Int32) (x3 : Int64) (x5 : Int32) (H : Heap) (locs : List Loc) (ls : Array Slot), tp_it4 (m_Row_numberAt_5 N a_c a_f ) n x1 x2 x3 x5 = some (r) → tp_Wd D (tp_ty cB cI) tM A s H locs [(q_a, .inr (3, [.ref q_aB, .int a_c])), (q_aB, .inl (cB, 10000, .inl a_f))] → lv_has ls 6 [(0, .ref q_a), (1, .int x1), (2, .int x2), (3, .long x3), (5, .int x5)] → W p l e rm_Row_numberAt s m args below meth c H locs 0 0 (MQ below (tp_Ql D A r [(q_a, .inr (3, [.ref q_aB, .int a_c])), (q_aB, .inl (cB, 10000, .inl a_f))]) args s 0 0 A) (F0 m 5 ls []) := by
  obtain ⟨hF, hr, hlocks⟩ := id hF2
  obtain ⟨hx, hb, hml, hown, hts⟩ := id hF
  intro n
  induction n with
  | zero => intro x1 x2 x3 x5 H locs ls hm; exact absurd hm (by simp [tp_it4])
  | succ n ih5 =>
    intro x1 x2 x3 x5 H locs ls hm hw hl
    replace hm : m_Row_numberAt_5 N a_c a_f  (tp_it4 (m_Row_numberAt_5 N a_c a_f ) n) x1 x2 x3 x5 = some (r) := hm
    unfold m_Row_numberAt_5 at hm
    refine lv_iload hx hb d_Row_numberAt_5 (lv_at hl 4 rfl) ?_
    refine lv_iload_n hx hb d_Row_numberAt_7 rfl (lv_at hl 2 rfl) ?_
    refine lv_icmp_ge (tgt := 39) hx hb d_Row_numberAt_8 (by decide +kernel) (fun hc1 => ?_) (fun hc1 => ?_)
    · replace hm := tp_it hc1 hm
      refine lv_lload_n hx hb d_Row_numberAt_39 rfl (lv_at hl 3 rfl) ?_
      obtain rfl := tp_inj1 hm
      exact tp_lret hx hb hr hlocks hw d_Row_numberAt_40
    · replace hm := tp_if hc1 hm
      refine lv_lload_n hx hb d_Row_numberAt_11 rfl (lv_at hl 3 rfl) ?_
      refine lv_aload_n hx hb d_Row_numberAt_12 rfl (lv_at hl 0 rfl) ?_
      refine lv_iload_n hx hb d_Row_numberAt_13 rfl (lv_at hl 1 rfl) ?_
      refine lv_iload hx hb d_Row_numberAt_14 (lv_at hl 4 rfl) ?_
      refine lv_iadd hx hb d_Row_numberAt_16 ?_
      obtain ⟨r2, hm3, hm⟩ := tp_b1_e hm
      refine tp_calli (wr := []) (WS' := [(q_a, .inr (3, [.ref q_aB, .int a_c])), (q_aB, .inl (cB, 10000, .inl a_f))]) (va_runV (As := [.int (x1 + x5)]) (rest := [.long x3]) hF (ct_Row_at (l := l) (D := D) (cB := cB) (cI := cI) (tM := tM) (q_a := q_a) (q_aB := q_aB) (a_c := a_c) (a_f := a_f) (x1 := (x1 + x5)) (r := r2) hm3 _) (cwV 1 hts (tpG_V wd_12 wd_13 wd_14 wd_3 wd_11) rfl rfl rfl ⟨rfl, yd_Row_at⟩ ⟨Nat.le_of_ble_eq_true rfl, Nat.le_of_ble_eq_true rfl⟩) ⟨tp_blind, va_recv hw.1 hw.2.1 (ci := 3) (q0 := 0) rfl rfl, tp_pre hw [0, 1] rfl rfl⟩ rfl rfl hl.1 rfl (lv_room (Nat.le_of_ble_eq_true rfl)) d_Row_numberAt_17 ⟨Nat.le_of_ble_eq_true rfl, Nat.le_of_ble_eq_true rfl⟩) hw [0, 1] [] [0, 1] rfl rfl rfl (by decide) rfl rfl (fun H locs hw => ?_)
      refine lv_sipush (v := (255 : Int32)) hx hb d_Row_numberAt_20 (by decide +kernel) ?_
      refine lv_iand hx hb d_Row_numberAt_23 ?_
      refine lv_i2l (v := (Int32.toInt64 (r2 &&& (255 : Int32)))) hx hb d_Row_numberAt_24 rfl ?_
      refine lv_bipush (v := (8 : Int32)) hx hb d_Row_numberAt_25 (by decide +kernel) ?_
      refine lv_iload hx hb d_Row_numberAt_27 (lv_at hl 4 rfl) ?_
      refine lv_imul hx hb d_Row_numberAt_29 ?_
      refine lv_lshl (v := ((Int32.toInt64 (r2 &&& (255 : Int32))) <<< (Int32.toInt64 ((8 : Int32) * x5) &&& 63))) hx hb d_Row_numberAt_30 rfl ?_
      refine lv_lor hx hb d_Row_numberAt_31 ?_
      obtain ⟨y4, ey4, hm⟩ := tp_b0_e hm
      refine tp_topl ey4 ?_
      refine lv_lstore_n (lv' := [(3, .long y4), (0, .ref q_a), (1, .int x1), (2, .int x2), (5, .int x5)]) hx hb d_Row_numberAt_32 rfl hl (by decide +kernel) rfl (fun ls hl => ?_)
      refine lv_iinc (v := (x5 + (1 : Int32))) (lv' := [(5, .int (x5 + (1 : Int32))), (3, .long y4), (0, .ref q_a), (1, .int x1), (2, .int x2)]) hx hb d_Row_numberAt_33 hl (k := 4) rfl rfl (by decide +kernel) rfl (fun ls hl => ?_)
      refine lv_goto (tgt := 5) hx hb d_Row_numberAt_36 (by decide +kernel) ?_
      exact ih5 _ _ _ _ _ _ _ hm hw (lv_sub hl [2, 3, 4, 1, 0] rfl)
set_option maxHeartbeats 4000000 in
set_option maxRecDepth 100000 in
theorem ct_Row_numberAt {q_a q_aB : Nat} {a_c : Int32} {a_f : Nat → Int32} {N : Nat} {x1 : Int32} {x2 : Int32} {r : Int64} (hm : m_Row_numberAt N x1 x2 a_c a_f = some (r)) (sz : Nat) : tp_Cl l y_Row_numberAt ws_Row_numberAt rm_Row_numberAt D (tp_ty cB cI) tM [.ref q_a, .int x1, .int x2] [(q_a, .inr (3, [.ref q_aB, .int a_c])), (q_aB, .inl (cB, 10000, .inl a_f))] sz r [(q_a, .inr (3, [.ref q_aB, .int a_c])), (q_aB, .inl (cB, 10000, .inl a_f))] := by
  refine Met.ofW (cc := c_Row_numberAt) (maxL := 6) (ret := (some .long)) (by decide) rfl ?_
  intro p e s m args below meth c s₁ B hml hv
  obtain ⟨rfl, hv⟩ := hv
  have hw := tp_entry hv
  generalize va_A [(q_a, .inr (3, [.ref q_aB, .int a_c])), (q_aB, .inl (cB, 10000, .inl a_f))] sz = A at hw ⊢
  have hx := B.exec
  have hb := B.bytes
  have hr := B.returns
  have hts0 := atoms_spec (ws := ws_Row_numberAt) B.pre
  have hts := fun w h => hts0 w (List.mem_cons_of_mem _ h)
  have hown : s.vm.findClass R_Row = some m.cls := findClass_of_methodNamed B.named
  have hlocks := B.notSynchronized
  have hF : CallFix p m c c_Row_numberAt 6 s _ tpG R_Row := ⟨hx, hb, hml, hown, hts⟩
  have hF2 : tp_F p m c c_Row_numberAt 6 s _ tpG R_Row meth (some .long) := ⟨hF, hr, hlocks⟩
  have hl := lv_entry ([.ref q_a, .int x1, .int x2]) (n := 6) (Nat.le_of_ble_eq_true rfl)
  rw [lg_entry_eq]
  generalize (lg_sl ([.ref q_a, .int x1, .int x2]) ++ List.replicate (6 - (lg_sl ([.ref q_a, .int x1, .int x2])).length) Slot.unset).toArray = ls at hl ⊢
  replace hl : lv_has ls 6 [(0, .ref q_a), (1, .int x1), (2, .int x2)] := hl
  unfold m_Row_numberAt at hm
  refine lv_lconst (v := (0 : Int64)) hx hb d_Row_numberAt_0 (by decide +kernel) ?_
  refine lv_lstore_n (lv' := [(3, .long (0 : Int64)), (0, .ref q_a), (1, .int x1), (2, .int x2)]) hx hb d_Row_numberAt_1 rfl hl (by decide +kernel) rfl (fun ls hl => ?_)
  refine lv_iconst (v := (0 : Int32)) hx hb d_Row_numberAt_2 (by decide +kernel) ?_
  refine lv_istore (lv' := [(5, .int (0 : Int32)), (3, .long (0 : Int64)), (0, .ref q_a), (1, .int x1), (2, .int x2)]) hx hb d_Row_numberAt_3 hl (by decide +kernel) rfl (fun ls hl => ?_)
  exact w_Row_numberAt_5 hF2  N _ _ _ _ _ _ _ hm hw (lv_sub hl [2, 3, 4, 1, 0] rfl)
end
abbrev rm_Row_putFrom : Room := { frames := 1, cells := 0, slots := 0, locals := 21 }
abbrev ws_Row_putFrom : List Cond := .code y_Row_putFrom c_Row_putFrom 5 none :: tpG
noncomputable def m_Row_putFrom_3 (N : Nat) (b_c : Int32) (b_f : Nat → Int32) (rec3 : Int32 → Int32 → Int32 → (Nat → Int32) → Option (Int32 × (Nat → Int32))) (x3 : Int32) (x4 : Int32) (a_c : Int32) (a_f : Nat → Int32) : Option (Int32 × (Nat → Int32)) :=
  if x3 ≤ x4 then
    some (a_c, a_f)
  else
    tp_b1 (m_Row_at x4 b_c b_f) fun r2 =>
    tp_b2 (m_Row_put r2 a_c a_f) fun a_c_4 a_f_5 =>
    rec3 x3 (x4 + (1 : Int32)) a_c_4 a_f_5
noncomputable def m_Row_putFrom (N : Nat) (x2 : Int32) (x3 : Int32) (a_c : Int32) (a_f : Nat → Int32) (b_c : Int32) (b_f : Nat → Int32) : Option (Int32 × (Nat → Int32)) :=
  tp_it4 (m_Row_putFrom_3 N b_c b_f ) N x3 x2 a_c a_f
section
variable {p : Program} {l : Launch} {e : Env} {s : State} {m : MethodId} {args : Array Value} {below : List Frame} {meth : Method} {c : Code} {A : Nat → Prop} {D : va_G} {cB cI : ClassId} {tM : Nat}
set_option maxHeartbeats 4000000 in
set_option maxRecDepth 100000 in
theorem w_Row_putFrom_3 {q_a q_aB q_b q_bB : Nat} {b_c : Int32} {b_f : Nat → Int32} {N : Nat} {a_c' : Int32} {a_f' : Nat → Int32} (hF2 : tp_F p m c c_Row_putFrom 5 s args tpG R_Row meth none) : ∀ (n : Nat), ∀ (x3 : Int32) (x4 : Int32) (a_c : Int32) (a_f : Nat → Int32) (H : Heap) (locs : List Loc) (ls : Array Slot), tp_it4 (m_Row_putFrom_3 N b_c b_f ) n x3 x4 a_c a_f = some (a_c', a_f') → tp_Wd D (tp_ty cB cI) tM A s H locs [(q_a, .inr (3, [.ref q_aB, .int a_c])), (q_aB, .inl (cB, 10000, .inl a_f)), (q_b, .inr (3, [.ref q_bB, .int b_c])), (q_bB, .inl (cB, 10000, .inl b_f))] → lv_has ls 5 [(0, .ref q_a), (1, .ref q_b), (3, .int x3), (4, .int x4)] → W p l e rm_Row_putFrom s m args below meth c H locs 0 0 (MQ below (tp_Qv (S := Unit) D A (fun _ => [(q_a, .inr (3, [.ref q_aB, .int a_c'])), (q_aB, .inl (cB, 10000, .inl a_f')), (q_b, .inr (3, [.ref q_bB, .int b_c])), (q_bB, .inl (cB, 10000, .inl b_f))])) args s 0 0 A) (F0 m 3 ls []) := by
  obtain ⟨hF, hr, hlocks⟩ := id hF2
  obtain ⟨hx, hb, hml, hown, hts⟩ := id hF
  intro n
  induction n with
  | zero => intro x3 x4 a_c a_f H locs ls hm; exact absurd hm (by simp [tp_it4])
  | succ n ih3 =>
    intro x3 x4 a_c a_f H locs ls hm hw hl
    replace hm : m_Row_putFrom_3 N b_c b_f  (tp_it4 (m_Row_putFrom_3 N b_c b_f ) n) x3 x4 a_c a_f = some (a_c', a_f') := hm
    unfold m_Row_putFrom_3 at hm
    refine lv_iload hx hb d_Row_putFrom_3 (lv_at hl 3 rfl) ?_
    refine lv_iload_n hx hb d_Row_putFrom_5 rfl (lv_at hl 2 rfl) ?_
    refine lv_icmp_ge (tgt := 25) hx hb d_Row_putFrom_6 (by decide +kernel) (fun hc1 => ?_) (fun hc1 => ?_)
    · replace hm := tp_it hc1 hm
      obtain ⟨rfl, rfl⟩ := tp_inj2 hm
      exact tp_vret () hx hb hr hlocks hw d_Row_putFrom_25
    · replace hm := tp_if hc1 hm
      refine lv_aload_n hx hb d_Row_putFrom_9 rfl (lv_at hl 0 rfl) ?_
      refine lv_aload_n hx hb d_Row_putFrom_10 rfl (lv_at hl 1 rfl) ?_
      refine lv_iload hx hb d_Row_putFrom_11 (lv_at hl 3 rfl) ?_
      obtain ⟨r2, hm3, hm⟩ := tp_b1_e hm
      refine tp_calli (wr := [(q_a, .inr (3, [.ref q_aB, .int a_c])), (q_aB, .inl (cB, 10000, .inl a_f))]) (WS' := [(q_a, .inr (3, [.ref q_aB, .int a_c])), (q_aB, .inl (cB, 10000, .inl a_f)), (q_b, .inr (3, [.ref q_bB, .int b_c])), (q_bB, .inl (cB, 10000, .inl b_f))]) (va_runV (As := [.int x4]) (rest := [.ref q_a]) hF (ct_Row_at (l := l) (D := D) (cB := cB) (cI := cI) (tM := tM) (q_a := q_b) (q_aB := q_bB) (a_c := b_c) (a_f := b_f) (x1 := x4) (r := r2) hm3 _) (cwV 1 hts (tpG_V wd_12 wd_13 wd_14 wd_3 wd_11) rfl rfl rfl ⟨rfl, yd_Row_at⟩ ⟨Nat.le_of_ble_eq_true rfl, Nat.le_of_ble_eq_true rfl⟩) ⟨tp_blind, va_recv hw.1 hw.2.1 (ci := 3) (q0 := 2) rfl rfl, tp_pre hw [2, 3] rfl rfl⟩ rfl rfl hl.1 rfl (lv_room (Nat.le_of_ble_eq_true rfl)) d_Row_putFrom_13 ⟨Nat.le_of_ble_eq_true rfl, Nat.le_of_ble_eq_true rfl⟩) hw [2, 3] [0, 1] [0, 1, 2, 3] rfl rfl rfl (by decide) rfl rfl (fun H locs hw => ?_)
      obtain ⟨a_c_4, a_f_5, hm6, hm⟩ := tp_b2_e hm
      refine tp_callv (wr := [(q_b, .inr (3, [.ref q_bB, .int b_c])), (q_bB, .inl (cB, 10000, .inl b_f))]) (WS' := [(q_a, .inr (3, [.ref q_aB, .int a_c_4])), (q_aB, .inl (cB, 10000, .inl a_f_5)), (q_b, .inr (3, [.ref q_bB, .int b_c])), (q_bB, .inl (cB, 10000, .inl b_f))]) (va_runV (As := [.int r2]) (rest := []) hF (ct_Row_put (l := l) (D := D) (cB := cB) (cI := cI) (tM := tM) (q_a := q_a) (q_aB := q_aB) (a_c := a_c) (a_f := a_f) (x1 := r2) (a_c' := a_c_4) (a_f' := a_f_5) hm6 _) (cwV 1 hts (tpG_V wd_4 wd_5 wd_6 wd_3 wd_2) rfl rfl rfl ⟨rfl, yd_Row_put⟩ ⟨Nat.le_of_ble_eq_true rfl, Nat.le_of_ble_eq_true rfl⟩) ⟨tp_blind, va_recv hw.1 hw.2.1 (ci := 3) (q0 := 0) rfl rfl, tp_pre hw [0, 1] rfl rfl⟩ rfl rfl hl.1 rfl (lv_room (Nat.le_of_ble_eq_true rfl)) d_Row_putFrom_16 ⟨Nat.le_of_ble_eq_true rfl, Nat.le_of_ble_eq_true rfl⟩) hw [0, 1] [2, 3] [2, 3, 0, 1] rfl rfl rfl (by decide) rfl rfl (fun H locs hw => ?_)
      refine lv_iinc (v := (x4 + (1 : Int32))) (lv' := [(4, .int (x4 + (1 : Int32))), (0, .ref q_a), (1, .ref q_b), (3, .int x3)]) hx hb d_Row_putFrom_19 hl (k := 3) rfl rfl (by decide +kernel) rfl (fun ls hl => ?_)
      refine lv_goto (tgt := 3) hx hb d_Row_putFrom_22 (by decide +kernel) ?_
      exact ih3 _ _ _ _ _ _ _ hm hw (lv_sub hl [1, 2, 3, 0] rfl)
set_option maxHeartbeats 4000000 in
set_option maxRecDepth 100000 in
theorem ct_Row_putFrom {q_a q_aB q_b q_bB : Nat} {a_c : Int32} {a_f : Nat → Int32} {b_c : Int32} {b_f : Nat → Int32} {N : Nat} {x2 : Int32} {x3 : Int32} {a_c' : Int32} {a_f' : Nat → Int32} (hm : m_Row_putFrom N x2 x3 a_c a_f b_c b_f = some (a_c', a_f')) (sz : Nat) : tp_Cv l y_Row_putFrom ws_Row_putFrom rm_Row_putFrom D (tp_ty cB cI) tM [.ref q_a, .ref q_b, .int x2, .int x3] [(q_a, .inr (3, [.ref q_aB, .int a_c])), (q_aB, .inl (cB, 10000, .inl a_f)), (q_b, .inr (3, [.ref q_bB, .int b_c])), (q_bB, .inl (cB, 10000, .inl b_f))] sz [(q_a, .inr (3, [.ref q_aB, .int a_c'])), (q_aB, .inl (cB, 10000, .inl a_f')), (q_b, .inr (3, [.ref q_bB, .int b_c])), (q_bB, .inl (cB, 10000, .inl b_f))] := by
  refine Met.ofW (cc := c_Row_putFrom) (maxL := 5) (ret := none) (by decide) rfl ?_
  intro p e s m args below meth c s₁ B hml hv
  obtain ⟨rfl, hv⟩ := hv
  have hw := tp_entry hv
  generalize va_A [(q_a, .inr (3, [.ref q_aB, .int a_c])), (q_aB, .inl (cB, 10000, .inl a_f)), (q_b, .inr (3, [.ref q_bB, .int b_c])), (q_bB, .inl (cB, 10000, .inl b_f))] sz = A at hw ⊢
  have hx := B.exec
  have hb := B.bytes
  have hr := B.returns
  have hts0 := atoms_spec (ws := ws_Row_putFrom) B.pre
  have hts := fun w h => hts0 w (List.mem_cons_of_mem _ h)
  have hown : s.vm.findClass R_Row = some m.cls := findClass_of_methodNamed B.named
  have hlocks := B.notSynchronized
  have hF : CallFix p m c c_Row_putFrom 5 s _ tpG R_Row := ⟨hx, hb, hml, hown, hts⟩
  have hF2 : tp_F p m c c_Row_putFrom 5 s _ tpG R_Row meth none := ⟨hF, hr, hlocks⟩
  have hl := lv_entry ([.ref q_a, .ref q_b, .int x2, .int x3]) (n := 5) (Nat.le_of_ble_eq_true rfl)
  rw [lg_entry_eq]
  generalize (lg_sl ([.ref q_a, .ref q_b, .int x2, .int x3]) ++ List.replicate (5 - (lg_sl ([.ref q_a, .ref q_b, .int x2, .int x3])).length) Slot.unset).toArray = ls at hl ⊢
  replace hl : lv_has ls 5 [(0, .ref q_a), (1, .ref q_b), (2, .int x2), (3, .int x3)] := hl
  unfold m_Row_putFrom at hm
  refine lv_iload_n hx hb d_Row_putFrom_0 rfl (lv_at hl 2 rfl) ?_
  refine lv_istore (lv' := [(4, .int x2), (0, .ref q_a), (1, .ref q_b), (2, .int x2), (3, .int x3)]) hx hb d_Row_putFrom_1 hl (by decide +kernel) rfl (fun ls hl => ?_)
  exact w_Row_putFrom_3 hF2  N _ _ _ _ _ _ _ hm hw (lv_sub hl [1, 2, 4, 0] rfl)
end
abbrev rm_Row_putBack : Room := { frames := 1, cells := 0, slots := 0, locals := 21 }
abbrev ws_Row_putBack : List Cond := .code y_Row_putBack c_Row_putBack 4 none :: tpG
noncomputable def m_Row_putBack_2 (N : Nat) (rec2 : Int32 → Int32 → Int32 → Int32 → (Nat → Int32) → Option (Int32 × (Nat → Int32))) (x1 : Int32) (x2 : Int32) (x3 : Int32) (a_c : Int32) (a_f : Nat → Int32) : Option (Int32 × (Nat → Int32)) :=
  if x2 ≤ x3 then
    some (a_c, a_f)
  else
    tp_b1 (m_Row_at (a_c - x1) a_c a_f) fun r2 =>
    tp_b2 (m_Row_put r2 a_c a_f) fun a_c_4 a_f_5 =>
    rec2 x1 x2 (x3 + (1 : Int32)) a_c_4 a_f_5
noncomputable def m_Row_putBack (N : Nat) (x1 : Int32) (x2 : Int32) (a_c : Int32) (a_f : Nat → Int32) : Option (Int32 × (Nat → Int32)) :=
  tp_it5 (m_Row_putBack_2 N ) N x1 x2 (0 : Int32) a_c a_f
section
variable {p : Program} {l : Launch} {e : Env} {s : State} {m : MethodId} {args : Array Value} {below : List Frame} {meth : Method} {c : Code} {A : Nat → Prop} {D : va_G} {cB cI : ClassId} {tM : Nat}
set_option maxHeartbeats 4000000 in
set_option maxRecDepth 100000 in
theorem w_Row_putBack_2 {q_a q_aB : Nat} {N : Nat} {a_c' : Int32} {a_f' : Nat → Int32} (hF2 : tp_F p m c c_Row_putBack 4 s args tpG R_Row meth none) : ∀ (n : Nat), ∀ (x1 : Int32) (x2 : Int32) (x3 : Int32) (a_c : Int32) (a_f : Nat → Int32) (H : Heap) (locs : List Loc) (ls : Array Slot), tp_it5 (m_Row_putBack_2 N ) n x1 x2 x3 a_c a_f = some (a_c', a_f') → tp_Wd D (tp_ty cB cI) tM A s H locs [(q_a, .inr (3, [.ref q_aB, .int a_c])), (q_aB, .inl (cB, 10000, .inl a_f))] → lv_has ls 4 [(0, .ref q_a), (1, .int x1), (2, .int x2), (3, .int x3)] → W p l e rm_Row_putBack s m args below meth c H locs 0 0 (MQ below (tp_Qv (S := Unit) D A (fun _ => [(q_a, .inr (3, [.ref q_aB, .int a_c'])), (q_aB, .inl (cB, 10000, .inl a_f'))])) args s 0 0 A) (F0 m 2 ls []) := by
  obtain ⟨hF, hr, hlocks⟩ := id hF2
  obtain ⟨hx, hb, hml, hown, hts⟩ := id hF
  intro n
  induction n with
  | zero => intro x1 x2 x3 a_c a_f H locs ls hm; exact absurd hm (by simp [tp_it5])
  | succ n ih2 =>
    intro x1 x2 x3 a_c a_f H locs ls hm hw hl
    replace hm : m_Row_putBack_2 N  (tp_it5 (m_Row_putBack_2 N ) n) x1 x2 x3 a_c a_f = some (a_c', a_f') := hm
    unfold m_Row_putBack_2 at hm
    refine lv_iload_n hx hb d_Row_putBack_2 rfl (lv_at hl 3 rfl) ?_
    refine lv_iload_n hx hb d_Row_putBack_3 rfl (lv_at hl 2 rfl) ?_
    refine lv_icmp_ge (tgt := 27) hx hb d_Row_putBack_4 (by decide +kernel) (fun hc1 => ?_) (fun hc1 => ?_)
    · replace hm := tp_it hc1 hm
      obtain ⟨rfl, rfl⟩ := tp_inj2 hm
      exact tp_vret () hx hb hr hlocks hw d_Row_putBack_27
    · replace hm := tp_if hc1 hm
      refine lv_aload_n hx hb d_Row_putBack_7 rfl (lv_at hl 0 rfl) ?_
      refine lv_aload_n hx hb d_Row_putBack_8 rfl (lv_at hl 0 rfl) ?_
      refine lv_aload_n hx hb d_Row_putBack_9 rfl (lv_at hl 0 rfl) ?_
      refine tp_get (v := .int a_c) (C := R_Row) (T := T_Row) hx hb hts fw_Row hown hw 0 rfl rfl 1 (by decide +kernel) (hts _ wd_0) rfl d_Row_putBack_10 ?_
      refine lv_iload_n hx hb d_Row_putBack_13 rfl (lv_at hl 1 rfl) ?_
      refine lv_isub hx hb d_Row_putBack_14 ?_
      obtain ⟨r2, hm3, hm⟩ := tp_b1_e hm
      refine tp_calli (wr := []) (WS' := [(q_a, .inr (3, [.ref q_aB, .int a_c])), (q_aB, .inl (cB, 10000, .inl a_f))]) (va_runV (As := [.int (a_c - x1)]) (rest := [.ref q_a]) hF (ct_Row_at (l := l) (D := D) (cB := cB) (cI := cI) (tM := tM) (q_a := q_a) (q_aB := q_aB) (a_c := a_c) (a_f := a_f) (x1 := (a_c - x1)) (r := r2) hm3 _) (cwV 1 hts (tpG_V wd_12 wd_13 wd_14 wd_3 wd_11) rfl rfl rfl ⟨rfl, yd_Row_at⟩ ⟨Nat.le_of_ble_eq_true rfl, Nat.le_of_ble_eq_true rfl⟩) ⟨tp_blind, va_recv hw.1 hw.2.1 (ci := 3) (q0 := 0) rfl rfl, tp_pre hw [0, 1] rfl rfl⟩ rfl rfl hl.1 rfl (lv_room (Nat.le_of_ble_eq_true rfl)) d_Row_putBack_15 ⟨Nat.le_of_ble_eq_true rfl, Nat.le_of_ble_eq_true rfl⟩) hw [0, 1] [] [0, 1] rfl rfl rfl (by decide) rfl rfl (fun H locs hw => ?_)
      obtain ⟨a_c_4, a_f_5, hm6, hm⟩ := tp_b2_e hm
      refine tp_callv (wr := []) (WS' := [(q_a, .inr (3, [.ref q_aB, .int a_c_4])), (q_aB, .inl (cB, 10000, .inl a_f_5))]) (va_runV (As := [.int r2]) (rest := []) hF (ct_Row_put (l := l) (D := D) (cB := cB) (cI := cI) (tM := tM) (q_a := q_a) (q_aB := q_aB) (a_c := a_c) (a_f := a_f) (x1 := r2) (a_c' := a_c_4) (a_f' := a_f_5) hm6 _) (cwV 1 hts (tpG_V wd_4 wd_5 wd_6 wd_3 wd_2) rfl rfl rfl ⟨rfl, yd_Row_put⟩ ⟨Nat.le_of_ble_eq_true rfl, Nat.le_of_ble_eq_true rfl⟩) ⟨tp_blind, va_recv hw.1 hw.2.1 (ci := 3) (q0 := 0) rfl rfl, tp_pre hw [0, 1] rfl rfl⟩ rfl rfl hl.1 rfl (lv_room (Nat.le_of_ble_eq_true rfl)) d_Row_putBack_18 ⟨Nat.le_of_ble_eq_true rfl, Nat.le_of_ble_eq_true rfl⟩) hw [0, 1] [] [0, 1] rfl rfl rfl (by decide) rfl rfl (fun H locs hw => ?_)
      refine lv_iinc (v := (x3 + (1 : Int32))) (lv' := [(3, .int (x3 + (1 : Int32))), (0, .ref q_a), (1, .int x1), (2, .int x2)]) hx hb d_Row_putBack_21 hl (k := 3) rfl rfl (by decide +kernel) rfl (fun ls hl => ?_)
      refine lv_goto (tgt := 2) hx hb d_Row_putBack_24 (by decide +kernel) ?_
      exact ih2 _ _ _ _ _ _ _ _ hm hw (lv_sub hl [1, 2, 3, 0] rfl)
set_option maxHeartbeats 4000000 in
set_option maxRecDepth 100000 in
theorem ct_Row_putBack {q_a q_aB : Nat} {a_c : Int32} {a_f : Nat → Int32} {N : Nat} {x1 : Int32} {x2 : Int32} {a_c' : Int32} {a_f' : Nat → Int32} (hm : m_Row_putBack N x1 x2 a_c a_f = some (a_c', a_f')) (sz : Nat) : tp_Cv l y_Row_putBack ws_Row_putBack rm_Row_putBack D (tp_ty cB cI) tM [.ref q_a, .int x1, .int x2] [(q_a, .inr (3, [.ref q_aB, .int a_c])), (q_aB, .inl (cB, 10000, .inl a_f))] sz [(q_a, .inr (3, [.ref q_aB, .int a_c'])), (q_aB, .inl (cB, 10000, .inl a_f'))] := by
  refine Met.ofW (cc := c_Row_putBack) (maxL := 4) (ret := none) (by decide) rfl ?_
  intro p e s m args below meth c s₁ B hml hv
  obtain ⟨rfl, hv⟩ := hv
  have hw := tp_entry hv
  generalize va_A [(q_a, .inr (3, [.ref q_aB, .int a_c])), (q_aB, .inl (cB, 10000, .inl a_f))] sz = A at hw ⊢
  have hx := B.exec
  have hb := B.bytes
  have hr := B.returns
  have hts0 := atoms_spec (ws := ws_Row_putBack) B.pre
  have hts := fun w h => hts0 w (List.mem_cons_of_mem _ h)
  have hown : s.vm.findClass R_Row = some m.cls := findClass_of_methodNamed B.named
  have hlocks := B.notSynchronized
  have hF : CallFix p m c c_Row_putBack 4 s _ tpG R_Row := ⟨hx, hb, hml, hown, hts⟩
  have hF2 : tp_F p m c c_Row_putBack 4 s _ tpG R_Row meth none := ⟨hF, hr, hlocks⟩
  have hl := lv_entry ([.ref q_a, .int x1, .int x2]) (n := 4) (Nat.le_of_ble_eq_true rfl)
  rw [lg_entry_eq]
  generalize (lg_sl ([.ref q_a, .int x1, .int x2]) ++ List.replicate (4 - (lg_sl ([.ref q_a, .int x1, .int x2])).length) Slot.unset).toArray = ls at hl ⊢
  replace hl : lv_has ls 4 [(0, .ref q_a), (1, .int x1), (2, .int x2)] := hl
  unfold m_Row_putBack at hm
  refine lv_iconst (v := (0 : Int32)) hx hb d_Row_putBack_0 (by decide +kernel) ?_
  refine lv_istore_n (lv' := [(3, .int (0 : Int32)), (0, .ref q_a), (1, .int x1), (2, .int x2)]) hx hb d_Row_putBack_1 rfl hl (by decide +kernel) rfl (fun ls hl => ?_)
  exact w_Row_putBack_2 hF2  N _ _ _ _ _ _ _ _ hm hw (lv_sub hl [1, 2, 3, 0] rfl)
end
abbrev rm_Row_shorten : Room := { frames := 0, cells := 0, slots := 0, locals := 0 }
abbrev ws_Row_shorten : List Cond := .code y_Row_shorten c_Row_shorten 2 none :: tpG
noncomputable def m_Row_shorten (x1 : Int32) (a_c : Int32) : Option (Int32) :=
  if x1 < 0 then
    some (a_c)
  else
    if a_c < x1 then
      some (a_c)
    else
      some (x1)
section
variable {p : Program} {l : Launch} {e : Env} {s : State} {m : MethodId} {args : Array Value} {below : List Frame} {meth : Method} {c : Code} {A : Nat → Prop} {D : va_G} {cB cI : ClassId} {tM : Nat}
set_option maxHeartbeats 4000000 in
set_option maxRecDepth 100000 in
theorem ct_Row_shorten {q_a q_aB : Nat} {a_c : Int32} {a_f : Nat → Int32} {x1 : Int32} {a_c' : Int32} (hm : m_Row_shorten x1 a_c = some (a_c')) (sz : Nat) : tp_Cv l y_Row_shorten ws_Row_shorten rm_Row_shorten D (tp_ty cB cI) tM [.ref q_a, .int x1] [(q_a, .inr (3, [.ref q_aB, .int a_c])), (q_aB, .inl (cB, 10000, .inl a_f))] sz [(q_a, .inr (3, [.ref q_aB, .int a_c'])), (q_aB, .inl (cB, 10000, .inl a_f))] := by
  refine Met.ofW (cc := c_Row_shorten) (maxL := 2) (ret := none) (by decide) rfl ?_
  intro p e s m args below meth c s₁ B hml hv
  obtain ⟨rfl, hv⟩ := hv
  have hw := tp_entry hv
  generalize va_A [(q_a, .inr (3, [.ref q_aB, .int a_c])), (q_aB, .inl (cB, 10000, .inl a_f))] sz = A at hw ⊢
  have hx := B.exec
  have hb := B.bytes
  have hr := B.returns
  have hts0 := atoms_spec (ws := ws_Row_shorten) B.pre
  have hts := fun w h => hts0 w (List.mem_cons_of_mem _ h)
  have hown : s.vm.findClass R_Row = some m.cls := findClass_of_methodNamed B.named
  have hlocks := B.notSynchronized
  have hF : CallFix p m c c_Row_shorten 2 s _ tpG R_Row := ⟨hx, hb, hml, hown, hts⟩
  have hF2 : tp_F p m c c_Row_shorten 2 s _ tpG R_Row meth none := ⟨hF, hr, hlocks⟩
  have hl := lv_entry ([.ref q_a, .int x1]) (n := 2) (Nat.le_of_ble_eq_true rfl)
  rw [lg_entry_eq]
  generalize (lg_sl ([.ref q_a, .int x1]) ++ List.replicate (2 - (lg_sl ([.ref q_a, .int x1])).length) Slot.unset).toArray = ls at hl ⊢
  replace hl : lv_has ls 2 [(0, .ref q_a), (1, .int x1)] := hl
  unfold m_Row_shorten at hm
  refine lv_iload_n hx hb d_Row_shorten_0 rfl (lv_at hl 1 rfl) ?_
  refine lv_if_lt (tgt := 17) hx hb d_Row_shorten_1 (by decide +kernel) (fun hc1 => ?_) (fun hc1 => ?_)
  · replace hm := tp_it hc1 hm
    obtain rfl := tp_inj1 hm
    exact tp_vret () hx hb hr hlocks hw d_Row_shorten_17
  · replace hm := tp_if hc1 hm
    refine lv_iload_n hx hb d_Row_shorten_4 rfl (lv_at hl 1 rfl) ?_
    refine lv_aload_n hx hb d_Row_shorten_5 rfl (lv_at hl 0 rfl) ?_
    refine tp_get (v := .int a_c) (C := R_Row) (T := T_Row) hx hb hts fw_Row hown hw 0 rfl rfl 1 (by decide +kernel) (hts _ wd_0) rfl d_Row_shorten_6 ?_
    refine lv_icmp_gt (tgt := 17) hx hb d_Row_shorten_9 (by decide +kernel) (fun hc2 => ?_) (fun hc2 => ?_)
    · replace hm := tp_it hc2 hm
      obtain rfl := tp_inj1 hm
      exact tp_vret () hx hb hr hlocks hw d_Row_shorten_17
    · replace hm := tp_if hc2 hm
      refine lv_aload_n hx hb d_Row_shorten_12 rfl (lv_at hl 0 rfl) ?_
      refine lv_iload_n hx hb d_Row_shorten_13 rfl (lv_at hl 1 rfl) ?_
      refine tp_put (v := .int x1) (C := R_Row) (T := T_Row) (WS' := [(q_a, .inr (3, [.ref q_aB, .int x1])), (q_aB, .inl (cB, 10000, .inl a_f))]) hx hb hts fw_Row ty_Row ty_Row_ok nm_Row hown hw 0 rfl rfl 1 (by decide +kernel) (hts _ wd_0) rfl rfl rfl (Nat.le_of_ble_eq_true rfl) rfl d_Row_shorten_14 (fun H locs hw => ?_)
      obtain rfl := tp_inj1 hm
      exact tp_vret () hx hb hr hlocks hw d_Row_shorten_17
end
abbrev rm_Row_become : Room := { frames := 1, cells := 0, slots := 0, locals := 40 }
abbrev ws_Row_become : List Cond := .code y_Row_become c_Row_become 2 none :: tpG
noncomputable def m_Row_become (a_c : Int32) (a_f : Nat → Int32) (b_c : Int32) (b_f : Nat → Int32) : Option (Int32 × (Nat → Int32)) :=
  tp_b1 (m_Row_fits b_c) fun r1 =>
  if r1 = 0 then
    some (a_c, a_f)
  else
    tp_gd (tp_cpok (0 : Int32) (0 : Int32) b_c 10000 10000) <|
    tp_gdp (tp_fitsB b_f) <|
    some (b_c, va_cpy b_f a_f (Int32.toNatClampNeg (0 : Int32)) (Int32.toNatClampNeg (0 : Int32)) (Int32.toNatClampNeg b_c))
section
variable {p : Program} {l : Launch} {e : Env} {s : State} {m : MethodId} {args : Array Value} {below : List Frame} {meth : Method} {c : Code} {A : Nat → Prop} {D : va_G} {cB cI : ClassId} {tM : Nat}
set_option maxHeartbeats 4000000 in
set_option maxRecDepth 100000 in
theorem ct_Row_become {q_a q_aB q_b q_bB : Nat} {a_c : Int32} {a_f : Nat → Int32} {b_c : Int32} {b_f : Nat → Int32} {a_c' : Int32} {a_f' : Nat → Int32} (hm : m_Row_become a_c a_f b_c b_f = some (a_c', a_f')) (sz : Nat) : tp_Cv l y_Row_become ws_Row_become rm_Row_become D (tp_ty cB cI) tM [.ref q_a, .ref q_b] [(q_a, .inr (3, [.ref q_aB, .int a_c])), (q_aB, .inl (cB, 10000, .inl a_f)), (q_b, .inr (3, [.ref q_bB, .int b_c])), (q_bB, .inl (cB, 10000, .inl b_f))] sz [(q_a, .inr (3, [.ref q_aB, .int a_c'])), (q_aB, .inl (cB, 10000, .inl a_f')), (q_b, .inr (3, [.ref q_bB, .int b_c])), (q_bB, .inl (cB, 10000, .inl b_f))] := by
  refine Met.ofW (cc := c_Row_become) (maxL := 2) (ret := none) (by decide) rfl ?_
  intro p e s m args below meth c s₁ B hml hv
  obtain ⟨rfl, hv⟩ := hv
  have hw := tp_entry hv
  generalize va_A [(q_a, .inr (3, [.ref q_aB, .int a_c])), (q_aB, .inl (cB, 10000, .inl a_f)), (q_b, .inr (3, [.ref q_bB, .int b_c])), (q_bB, .inl (cB, 10000, .inl b_f))] sz = A at hw ⊢
  have hx := B.exec
  have hb := B.bytes
  have hr := B.returns
  have hts0 := atoms_spec (ws := ws_Row_become) B.pre
  have hts := fun w h => hts0 w (List.mem_cons_of_mem _ h)
  have hown : s.vm.findClass R_Row = some m.cls := findClass_of_methodNamed B.named
  have hlocks := B.notSynchronized
  have hF : CallFix p m c c_Row_become 2 s _ tpG R_Row := ⟨hx, hb, hml, hown, hts⟩
  have hF2 : tp_F p m c c_Row_become 2 s _ tpG R_Row meth none := ⟨hF, hr, hlocks⟩
  have hl := lv_entry ([.ref q_a, .ref q_b]) (n := 2) (Nat.le_of_ble_eq_true rfl)
  rw [lg_entry_eq]
  generalize (lg_sl ([.ref q_a, .ref q_b]) ++ List.replicate (2 - (lg_sl ([.ref q_a, .ref q_b])).length) Slot.unset).toArray = ls at hl ⊢
  replace hl : lv_has ls 2 [(0, .ref q_a), (1, .ref q_b)] := hl
  unfold m_Row_become at hm
  refine lv_aload_n hx hb d_Row_become_0 rfl (lv_at hl 1 rfl) ?_
  obtain ⟨r1, hm2, hm⟩ := tp_b1_e hm
  refine tp_calli (wr := [(q_a, .inr (3, [.ref q_aB, .int a_c])), (q_aB, .inl (cB, 10000, .inl a_f))]) (WS' := [(q_a, .inr (3, [.ref q_aB, .int a_c])), (q_aB, .inl (cB, 10000, .inl a_f)), (q_b, .inr (3, [.ref q_bB, .int b_c])), (q_bB, .inl (cB, 10000, .inl b_f))]) (va_runV (As := []) (rest := []) hF (ct_Row_fits (l := l) (D := D) (cB := cB) (cI := cI) (tM := tM) (q_a := q_b) (q_aB := q_bB) (a_c := b_c) (a_f := b_f) (r := r1) hm2 _) (cwV 0 hts (tpG_V wd_16 wd_17 wd_18 wd_3 wd_15) rfl rfl rfl ⟨rfl, yd_Row_fits⟩ ⟨Nat.le_of_ble_eq_true rfl, Nat.le_of_ble_eq_true rfl⟩) ⟨tp_blind, va_recv hw.1 hw.2.1 (ci := 3) (q0 := 2) rfl rfl, tp_pre hw [2, 3] rfl rfl⟩ rfl rfl hl.1 rfl (lv_room (Nat.le_of_ble_eq_true rfl)) d_Row_become_1 ⟨Nat.le_of_ble_eq_true rfl, Nat.le_of_ble_eq_true rfl⟩) hw [2, 3] [0, 1] [0, 1, 2, 3] rfl rfl rfl (by decide) rfl rfl (fun H locs hw => ?_)
  refine lv_if_eq (tgt := 32) hx hb d_Row_become_4 (by decide +kernel) (fun hc3 => ?_) (fun hc3 => ?_)
  · replace hm := tp_it hc3 hm
    obtain ⟨rfl, rfl⟩ := tp_inj2 hm
    exact tp_vret () hx hb hr hlocks hw d_Row_become_32
  · replace hm := tp_if hc3 hm
    refine lv_aload_n hx hb d_Row_become_7 rfl (lv_at hl 1 rfl) ?_
    refine tp_get (v := .ref q_bB) (C := R_Row) (T := T_Row) hx hb hts fw_Row hown hw 2 rfl rfl 0 (by decide +kernel) (hts _ wd_1) rfl d_Row_become_8 ?_
    refine lv_iconst (v := (0 : Int32)) hx hb d_Row_become_11 (by decide +kernel) ?_
    refine lv_aload_n hx hb d_Row_become_12 rfl (lv_at hl 0 rfl) ?_
    refine tp_get (v := .ref q_aB) (C := R_Row) (T := T_Row) hx hb hts fw_Row hown hw 0 rfl rfl 0 (by decide +kernel) (hts _ wd_1) rfl d_Row_become_13 ?_
    refine lv_iconst (v := (0 : Int32)) hx hb d_Row_become_16 (by decide +kernel) ?_
    refine lv_aload_n hx hb d_Row_become_17 rfl (lv_at hl 1 rfl) ?_
    refine tp_get (v := .int b_c) (C := R_Row) (T := T_Row) hx hb hts fw_Row hown hw 2 rfl rfl 1 (by decide +kernel) (hts _ wd_0) rfl d_Row_become_18 ?_
    obtain ⟨hg4, hm⟩ := tp_gd_e hm
    obtain ⟨hf5, hm⟩ := tp_gdp_e hm
    refine tp_copy (WS' := [(q_a, .inr (3, [.ref q_aB, .int a_c])), (q_aB, .inl (cB, 10000, .inl (va_cpy b_f a_f (Int32.toNatClampNeg (0 : Int32)) (Int32.toNatClampNeg (0 : Int32)) (Int32.toNatClampNeg b_c)))), (q_b, .inr (3, [.ref q_bB, .int b_c])), (q_bB, .inl (cB, 10000, .inl b_f))]) (ty0 := .byte) hx hb (hml.trans hl.1.symm) hown (hts _ wd_19) (hts _ wd_20) (hts _ wd_21) (hts _ wd_22) hw 3 1 0 0 rfl rfl rfl rfl rfl hg4 (fun i _ => hf5 _) (Nat.le_of_ble_eq_true rfl) (Nat.le_of_ble_eq_true rfl) rfl d_Row_become_21 (fun H locs hw => ?_)
    refine lv_aload_n hx hb d_Row_become_24 rfl (lv_at hl 0 rfl) ?_
    refine lv_aload_n hx hb d_Row_become_25 rfl (lv_at hl 1 rfl) ?_
    refine tp_get (v := .int b_c) (C := R_Row) (T := T_Row) hx hb hts fw_Row hown hw 2 rfl rfl 1 (by decide +kernel) (hts _ wd_0) rfl d_Row_become_26 ?_
    refine tp_put (v := .int b_c) (C := R_Row) (T := T_Row) (WS' := [(q_a, .inr (3, [.ref q_aB, .int b_c])), (q_aB, .inl (cB, 10000, .inl (va_cpy b_f a_f (Int32.toNatClampNeg (0 : Int32)) (Int32.toNatClampNeg (0 : Int32)) (Int32.toNatClampNeg b_c)))), (q_b, .inr (3, [.ref q_bB, .int b_c])), (q_bB, .inl (cB, 10000, .inl b_f))]) hx hb hts fw_Row ty_Row ty_Row_ok nm_Row hown hw 0 rfl rfl 1 (by decide +kernel) (hts _ wd_0) rfl rfl rfl (Nat.le_of_ble_eq_true rfl) rfl d_Row_become_29 (fun H locs hw => ?_)
    obtain ⟨rfl, rfl⟩ := tp_inj2 hm
    exact tp_vret () hx hb hr hlocks hw d_Row_become_32
end
