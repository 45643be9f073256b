abbrev rm_Ar_fill : Room := { frames := 0, cells := 0, slots := 0, locals := 0 }
abbrev ws_Ar_fill : List Cond := .code y_Ar_fill c_Ar_fill 4 none :: tpG
noncomputable def m_Ar_fill_5 (N : Nat) (rec5 : Int32 → Int32 → Int32 → (Nat → Int32) → Option ((Nat → Int32))) (x1 : Int32) (x2 : Int32) (x3 : Int32) (z_f : Nat → Int32) : Option ((Nat → Int32)) :=
  if x3 ≤ x2 then
    some (z_f)
  else
    tp_gd (tp_inb x2 2048) <|
    rec5 x1 (x2 + (1 : Int32)) x3 (upd z_f (Int32.toNatClampNeg x2) x1)
noncomputable def m_Ar_fill (N : Nat) (x1 : Int32) (z_f : Nat → Int32) : Option ((Nat → Int32)) :=
  tp_it4 (m_Ar_fill_5 N ) N x1 (0 : Int32) (2048 : Int32) z_f
section
variable {p : Program} {l : Launch} {e : Env} {s : State} {m : MethodId} {args : Array Value} {below : List Frame} {meth : Method} {c : Code} {A : Nat → Prop} {D : va_G} {cB cI : ClassId} {tM : Nat}
set_option maxHeartbeats 4000000 in
set_option maxRecDepth 100000 in
theorem w_Ar_fill_5 {q_z : Nat} {N : Nat} {z_f' : Nat → Int32} (hF2 : tp_F p m c c_Ar_fill 4 s args tpG R_Ar meth none) : ∀ (n : Nat), ∀ (x1 : Int32) (x2 : Int32) (x3 : Int32) (z_f : Nat → Int32) (H : Heap) (locs : List Loc) (ls : Array Slot), tp_it4 (m_Ar_fill_5 N ) n x1 x2 x3 z_f = some (z_f') → tp_Wd D (tp_ty cB cI) tM A s H locs [(q_z, .inl (cI, 2048, .inl z_f))] → lv_has ls 4 [(0, .ref q_z), (1, .int x1), (2, .int x2), (3, .int x3)] → W p l e rm_Ar_fill s m args below meth c H locs 0 0 (MQ below (tp_Qv (S := Unit) D A (fun _ => [(q_z, .inl (cI, 2048, .inl z_f'))])) args s 0 0 A) (F0 m 5 ls []) := by
  obtain ⟨hF, hr, hlocks⟩ := id hF2
  obtain ⟨hx, hb, hml, hown, hts⟩ := id hF
  intro n
  induction n with
  | zero => intro x1 x2 x3 z_f H locs ls hm; exact absurd hm (by simp [tp_it4])
  | succ n ih5 =>
    intro x1 x2 x3 z_f H locs ls hm hw hl
    replace hm : m_Ar_fill_5 N  (tp_it4 (m_Ar_fill_5 N ) n) x1 x2 x3 z_f = some (z_f') := hm
    unfold m_Ar_fill_5 at hm
    refine lv_iload_n hx hb d_Ar_fill_5 rfl (lv_at hl 2 rfl) ?_
    refine lv_iload_n hx hb d_Ar_fill_6 rfl (lv_at hl 3 rfl) ?_
    refine lv_icmp_ge (tgt := 20) hx hb d_Ar_fill_7 (by decide +kernel) (fun hc1 => ?_) (fun hc1 => ?_)
    · replace hm := tp_it hc1 hm
      obtain rfl := tp_inj1 hm
      exact tp_vret () hx hb hr hlocks hw d_Ar_fill_20
    · replace hm := tp_if hc1 hm
      refine lv_aload_n hx hb d_Ar_fill_10 rfl (lv_at hl 0 rfl) ?_
      refine lv_iload_n hx hb d_Ar_fill_11 rfl (lv_at hl 2 rfl) ?_
      refine lv_iload_n hx hb d_Ar_fill_12 rfl (lv_at hl 1 rfl) ?_
      obtain ⟨hi2, hm⟩ := tp_gd_e hm
      refine tp_iast (WS' := [(q_z, .inl (cI, 2048, .inl (upd z_f (Int32.toNatClampNeg x2) x1)))]) hx hb hw 0 1 rfl rfl hi2 rfl d_Ar_fill_13 (fun H locs hw => ?_)
      refine lv_iinc (v := (x2 + (1 : Int32))) (lv' := [(2, .int (x2 + (1 : Int32))), (0, .ref q_z), (1, .int x1), (3, .int x3)]) hx hb d_Ar_fill_14 hl (k := 2) rfl rfl (by decide +kernel) rfl (fun ls hl => ?_)
      refine lv_goto (tgt := 5) hx hb d_Ar_fill_17 (by decide +kernel) ?_
      exact ih5 _ _ _ _ _ _ _ hm hw (lv_sub hl [1, 2, 0, 3] rfl)
set_option maxHeartbeats 4000000 in
set_option maxRecDepth 100000 in
theorem ct_Ar_fill {q_z : Nat} {z_f : Nat → Int32} {N : Nat} {x1 : Int32} {z_f' : Nat → Int32} (hm : m_Ar_fill N x1 z_f = some (z_f')) (sz : Nat) : tp_Cv l y_Ar_fill ws_Ar_fill rm_Ar_fill D (tp_ty cB cI) tM [.ref q_z, .int x1] [(q_z, .inl (cI, 2048, .inl z_f))] sz [(q_z, .inl (cI, 2048, .inl z_f'))] := by
  refine Met.ofW (cc := c_Ar_fill) (maxL := 4) (ret := none) (by decide) rfl ?_
  intro p e s m args below meth c s₁ B hml hv
  obtain ⟨rfl, hv⟩ := hv
  have hw := tp_entry hv
  generalize va_A [(q_z, .inl (cI, 2048, .inl z_f))] sz = A at hw ⊢
  have hx := B.exec
  have hb := B.bytes
  have hr := B.returns
  have hts0 := atoms_spec (ws := ws_Ar_fill) B.pre
  have hts := fun w h => hts0 w (List.mem_cons_of_mem _ h)
  have hown : s.vm.findClass R_Ar = some m.cls := findClass_of_methodNamed B.named
  have hlocks := B.notSynchronized
  have hF : CallFix p m c c_Ar_fill 4 s _ tpG R_Ar := ⟨hx, hb, hml, hown, hts⟩
  have hF2 : tp_F p m c c_Ar_fill 4 s _ tpG R_Ar meth none := ⟨hF, hr, hlocks⟩
  have hl := lv_entry ([.ref q_z, .int x1]) (n := 4) (Nat.le_of_ble_eq_true rfl)
  rw [lg_entry_eq]
  generalize (lg_sl ([.ref q_z, .int x1]) ++ List.replicate (4 - (lg_sl ([.ref q_z, .int x1])).length) Slot.unset).toArray = ls at hl ⊢
  replace hl : lv_has ls 4 [(0, .ref q_z), (1, .int x1)] := hl
  unfold m_Ar_fill at hm
  refine lv_iconst (v := (0 : Int32)) hx hb d_Ar_fill_0 (by decide +kernel) ?_
  refine lv_istore_n (lv' := [(2, .int (0 : Int32)), (0, .ref q_z), (1, .int x1)]) hx hb d_Ar_fill_1 rfl hl (by decide +kernel) rfl (fun ls hl => ?_)
  refine lv_aload_n hx hb d_Ar_fill_2 rfl (lv_at hl 1 rfl) ?_
  refine tp_alen (v := (2048 : Int32)) hx hb hw 0 1 rfl rfl rfl d_Ar_fill_3 ?_
  refine lv_istore_n (lv' := [(3, .int (2048 : Int32)), (2, .int (0 : Int32)), (0, .ref q_z), (1, .int x1)]) hx hb d_Ar_fill_4 rfl hl (by decide +kernel) rfl (fun ls hl => ?_)
  exact w_Ar_fill_5 hF2  N _ _ _ _ _ _ _ hm hw (lv_sub hl [2, 3, 1, 0] rfl)
end
abbrev rm_Matches_bucketOf : Room := { frames := 2, cells := 0, slots := 0, locals := 46 }
abbrev ws_Matches_bucketOf : List Cond := .code y_Matches_bucketOf c_Matches_bucketOf 2 (some .int) :: tpG
noncomputable def m_Matches_bucketOf (N : Nat) (x1 : Int32) (i_c : Int32) (i_f : Nat → Int32) : Option (Int32) :=
  tp_b1 (m_Row_numberAt N x1 (4 : Int32) i_c i_f) fun r1 =>
  some ((tp_ushr ((Int64.toInt32 r1) * (-1640531535 : Int32)) (21 : Int32)))
section
variable {p : Program} {l : Launch} {e : Env} {s : State} {m : MethodId} {args : Array Value} {below : List Frame} {meth : Method} {c : Code} {A : Nat → Prop} {D : va_G} {cB cI : ClassId} {tM : Nat}
set_option maxHeartbeats 4000000 in
set_option maxRecDepth 100000 in
theorem ct_Matches_bucketOf {q_mt q_i q_iB q_mtb q_mtl : Nat} {mt_from : Int32} {mt_to : Int32} {mt_len : Int32} {mt_dist : Int32} {i_c : Int32} {i_f : Nat → Int32} {mt_bef : Nat → Int32} {mt_lat : Nat → Int32} {N : Nat} {x1 : Int32} {r : Int32} (hm : m_Matches_bucketOf N x1 i_c i_f = some (r)) (sz : Nat) : tp_Ci l y_Matches_bucketOf ws_Matches_bucketOf rm_Matches_bucketOf D (tp_ty cB cI) tM [.ref q_mt, .int x1] [(q_mt, .inr (2, [.ref q_i, .ref q_mtb, .ref q_mtl, .int mt_from, .int mt_to, .int mt_len, .int mt_dist])), (q_i, .inr (3, [.ref q_iB, .int i_c])), (q_iB, .inl (cB, 10000, .inl i_f)), (q_mtb, .inl (cI, 10000, .inl mt_bef)), (q_mtl, .inl (cI, 2048, .inl mt_lat))] sz r [(q_mt, .inr (2, [.ref q_i, .ref q_mtb, .ref q_mtl, .int mt_from, .int mt_to, .int mt_len, .int mt_dist])), (q_i, .inr (3, [.ref q_iB, .int i_c])), (q_iB, .inl (cB, 10000, .inl i_f)), (q_mtb, .inl (cI, 10000, .inl mt_bef)), (q_mtl, .inl (cI, 2048, .inl mt_lat))] := by
  refine Met.ofW (cc := c_Matches_bucketOf) (maxL := 2) (ret := (some .int)) (by decide) rfl ?_
  intro p e s m args below meth c s₁ B hml hv
  obtain ⟨rfl, hv⟩ := hv
  have hw := tp_entry hv
  generalize va_A [(q_mt, .inr (2, [.ref q_i, .ref q_mtb, .ref q_mtl, .int mt_from, .int mt_to, .int mt_len, .int mt_dist])), (q_i, .inr (3, [.ref q_iB, .int i_c])), (q_iB, .inl (cB, 10000, .inl i_f)), (q_mtb, .inl (cI, 10000, .inl mt_bef)), (q_mtl, .inl (cI, 2048, .inl mt_lat))] sz = A at hw ⊢
  have hx := B.exec
  have hb := B.bytes
  have hr := B.returns
  have hts0 := atoms_spec (ws := ws_Matches_bucketOf) B.pre
  have hts := fun w h => hts0 w (List.mem_cons_of_mem _ h)
  have hown : s.vm.findClass R_Matches = some m.cls := findClass_of_methodNamed B.named
  have hlocks := B.notSynchronized
  have hF : CallFix p m c c_Matches_bucketOf 2 s _ tpG R_Matches := ⟨hx, hb, hml, hown, hts⟩
  have hF2 : tp_F p m c c_Matches_bucketOf 2 s _ tpG R_Matches meth (some .int) := ⟨hF, hr, hlocks⟩
  have hl := lv_entry ([.ref q_mt, .int x1]) (n := 2) (Nat.le_of_ble_eq_true rfl)
  rw [lg_entry_eq]
  generalize (lg_sl ([.ref q_mt, .int x1]) ++ List.replicate (2 - (lg_sl ([.ref q_mt, .int x1])).length) Slot.unset).toArray = ls at hl ⊢
  replace hl : lv_has ls 2 [(0, .ref q_mt), (1, .int x1)] := hl
  unfold m_Matches_bucketOf at hm
  refine lv_aload_n hx hb d_Matches_bucketOf_0 rfl (lv_at hl 0 rfl) ?_
  refine tp_get (v := .ref q_i) (C := R_Matches) (T := T_Matches) hx hb hts fw_Matches hown hw 0 rfl rfl 0 (by decide +kernel) (hts _ wd_30) rfl d_Matches_bucketOf_1 ?_
  refine lv_iload_n hx hb d_Matches_bucketOf_4 rfl (lv_at hl 1 rfl) ?_
  refine lv_iconst (v := (4 : Int32)) hx hb d_Matches_bucketOf_5 (by decide +kernel) ?_
  obtain ⟨r1, hm2, hm⟩ := tp_b1_e hm
  refine tp_calll (wr := [(q_mt, .inr (2, [.ref q_i, .ref q_mtb, .ref q_mtl, .int mt_from, .int mt_to, .int mt_len, .int mt_dist])), (q_mtb, .inl (cI, 10000, .inl mt_bef)), (q_mtl, .inl (cI, 2048, .inl mt_lat))]) (WS' := [(q_mt, .inr (2, [.ref q_i, .ref q_mtb, .ref q_mtl, .int mt_from, .int mt_to, .int mt_len, .int mt_dist])), (q_i, .inr (3, [.ref q_iB, .int i_c])), (q_iB, .inl (cB, 10000, .inl i_f)), (q_mtb, .inl (cI, 10000, .inl mt_bef)), (q_mtl, .inl (cI, 2048, .inl mt_lat))]) (va_runV (As := [.int x1, .int (4 : Int32)]) (rest := []) hF (ct_Row_numberAt (l := l) (D := D) (cB := cB) (cI := cI) (tM := tM) (q_a := q_i) (q_aB := q_iB) (a_c := i_c) (a_f := i_f) (x1 := x1) (x2 := (4 : Int32)) (N := N) (r := r1) hm2 _) (cwV 2 hts (tpG_V wd_32 wd_33 wd_34 wd_3 wd_31) rfl rfl rfl ⟨rfl, yd_Row_numberAt⟩ ⟨Nat.le_of_ble_eq_true rfl, Nat.le_of_ble_eq_true rfl⟩) ⟨tp_blind, va_recv hw.1 hw.2.1 (ci := 3) (q0 := 1) rfl rfl, tp_pre hw [1, 2] rfl rfl⟩ rfl rfl hl.1 rfl (lv_room (Nat.le_of_ble_eq_true rfl)) d_Matches_bucketOf_6 ⟨Nat.le_of_ble_eq_true rfl, Nat.le_of_ble_eq_true rfl⟩) hw [1, 2] [0, 3, 4] [0, 3, 4, 1, 2] rfl rfl rfl (by decide) rfl rfl (fun H locs hw => ?_)
  refine lv_l2i (v := (Int64.toInt32 r1)) hx hb d_Matches_bucketOf_9 rfl ?_
  refine lv_ldc (v := (-1640531535 : Int32)) hx hb hown (hts _ wd_35) d_Matches_bucketOf_10 ?_
  refine lv_imul hx hb d_Matches_bucketOf_12 ?_
  refine lv_bipush (v := (21 : Int32)) hx hb d_Matches_bucketOf_13 (by decide +kernel) ?_
  refine lv_iushr (v := (tp_ushr ((Int64.toInt32 r1) * (-1640531535 : Int32)) (21 : Int32))) hx hb d_Matches_bucketOf_15 rfl ?_
  obtain rfl := tp_inj1 hm
  exact tp_iret hx hb hr hlocks hw d_Matches_bucketOf_16
end
abbrev rm_Matches_index : Room := { frames := 3, cells := 0, slots := 0, locals := 67 }
abbrev ws_Matches_index : List Cond := .code y_Matches_index c_Matches_index 3 none :: tpG
noncomputable def m_Matches_index_10 (N : Nat) (i_c : Int32) (i_f : Nat → Int32) (rec10 : Int32 → (Nat → Int32) → (Nat → Int32) → Option ((Nat → Int32) × (Nat → Int32))) (x1 : Int32) (mt_bef : Nat → Int32) (mt_lat : Nat → Int32) : Option ((Nat → Int32) × (Nat → Int32)) :=
  if (10000 : Int32) ≤ x1 then
    some (mt_bef, mt_lat)
  else
    if i_c < (x1 + (4 : Int32)) then
      some (mt_bef, mt_lat)
    else
      tp_b1 (m_Matches_bucketOf N x1 i_c i_f) fun r5 =>
      tp_gd (tp_inb (r5 &&& (2047 : Int32)) 2048) <|
      tp_gd (tp_inb x1 10000) <|
      tp_gd (tp_inb (r5 &&& (2047 : Int32)) 2048) <|
      rec10 (x1 + (1 : Int32)) (upd mt_bef (Int32.toNatClampNeg x1) (mt_lat (Int32.toNatClampNeg (r5 &&& (2047 : Int32))))) (upd mt_lat (Int32.toNatClampNeg (r5 &&& (2047 : Int32))) x1)
noncomputable def m_Matches_index (N : Nat) (i_c : Int32) (i_f : Nat → Int32) (mt_bef : Nat → Int32) (mt_lat : Nat → Int32) : Option ((Nat → Int32) × (Nat → Int32)) :=
  tp_b1 (m_Ar_fill N (-1 : Int32) mt_lat) fun z_f_1 =>
  tp_it3 (m_Matches_index_10 N i_c i_f ) N (0 : Int32) mt_bef z_f_1
section
variable {p : Program} {l : Launch} {e : Env} {s : State} {m : MethodId} {args : Array Value} {below : List Frame} {meth : Method} {c : Code} {A : Nat → Prop} {D : va_G} {cB cI : ClassId} {tM : Nat}
set_option maxHeartbeats 4000000 in
set_option maxRecDepth 100000 in
theorem w_Matches_index_10 {q_mt q_i q_iB q_mtb q_mtl : Nat} {mt_from : Int32} {mt_to : Int32} {mt_len : Int32} {mt_dist : Int32} {i_c : Int32} {i_f : Nat → Int32} {N : Nat} {mt_bef' : Nat → Int32} {mt_lat' : Nat → Int32} (hF2 : tp_F p m c c_Matches_index 3 s args tpG R_Matches meth none) : ∀ (n : Nat), ∀ (x1 : Int32) (mt_bef : Nat → Int32) (mt_lat : Nat → Int32) (H : Heap) (locs : List Loc) (ls : Array Slot), tp_it3 (m_Matches_index_10 N i_c i_f ) n x1 mt_bef mt_lat = some (mt_bef', mt_lat') → tp_Wd D (tp_ty cB cI) tM A s H locs [(q_mt, .inr (2, [.ref q_i, .ref q_mtb, .ref q_mtl, .int mt_from, .int mt_to, .int mt_len, .int mt_dist])), (q_i, .inr (3, [.ref q_iB, .int i_c])), (q_iB, .inl (cB, 10000, .inl i_f)), (q_mtb, .inl (cI, 10000, .inl mt_bef)), (q_mtl, .inl (cI, 2048, .inl mt_lat))] → lv_has ls 3 [(0, .ref q_mt), (1, .int x1)] → W p l e rm_Matches_index s m args below meth c H locs 0 0 (MQ below (tp_Qv (S := Unit) D A (fun _ => [(q_mt, .inr (2, [.ref q_i, .ref q_mtb, .ref q_mtl, .int mt_from, .int mt_to, .int mt_len, .int mt_dist])), (q_i, .inr (3, [.ref q_iB, .int i_c])), (q_iB, .inl (cB, 10000, .inl i_f)), (q_mtb, .inl (cI, 10000, .inl mt_bef')), (q_mtl, .inl (cI, 2048, .inl mt_lat'))])) args s 0 0 A) (F0 m 10 ls []) := by
  obtain ⟨hF, hr, hlocks⟩ := id hF2
  obtain ⟨hx, hb, hml, hown, hts⟩ := id hF
  intro n
  induction n with
  | zero => intro x1 mt_bef mt_lat H locs ls hm; exact absurd hm (by simp [tp_it3])
  | succ n ih10 =>
    intro x1 mt_bef mt_lat H locs ls hm hw hl
    replace hm : m_Matches_index_10 N i_c i_f  (tp_it3 (m_Matches_index_10 N i_c i_f ) n) x1 mt_bef mt_lat = some (mt_bef', mt_lat') := hm
    unfold m_Matches_index_10 at hm
    refine lv_iload_n hx hb d_Matches_index_10 rfl (lv_at hl 1 rfl) ?_
    refine lv_sipush (v := (10000 : Int32)) hx hb d_Matches_index_11 (by decide +kernel) ?_
    refine lv_icmp_ge (tgt := 65) hx hb d_Matches_index_14 (by decide +kernel) (fun hc3 => ?_) (fun hc3 => ?_)
    · replace hm := tp_it hc3 hm
      obtain ⟨rfl, rfl⟩ := tp_inj2 hm
      exact tp_vret () hx hb hr hlocks hw d_Matches_index_65
    · replace hm := tp_if hc3 hm
      refine lv_iload_n hx hb d_Matches_index_17 rfl (lv_at hl 1 rfl) ?_
      refine lv_iconst (v := (4 : Int32)) hx hb d_Matches_index_18 (by decide +kernel) ?_
      refine lv_iadd hx hb d_Matches_index_19 ?_
      refine lv_aload_n hx hb d_Matches_index_20 rfl (lv_at hl 0 rfl) ?_
      refine tp_get (v := .ref q_i) (C := R_Matches) (T := T_Matches) hx hb hts fw_Matches hown hw 0 rfl rfl 0 (by decide +kernel) (hts _ wd_30) rfl d_Matches_index_21 ?_
      refine tp_getN (v := .int i_c) (C := R_Row) (T := T_Row) hx hb hts fw_Row hown hw 1 rfl rfl 1 (by decide +kernel) nw_0 rfl d_Matches_index_24 ?_
      refine lv_icmp_gt (tgt := 65) hx hb d_Matches_index_27 (by decide +kernel) (fun hc4 => ?_) (fun hc4 => ?_)
      · replace hm := tp_it hc4 hm
        obtain ⟨rfl, rfl⟩ := tp_inj2 hm
        exact tp_vret () hx hb hr hlocks hw d_Matches_index_65
      · replace hm := tp_if hc4 hm
        refine lv_aload_n hx hb d_Matches_index_30 rfl (lv_at hl 0 rfl) ?_
        refine lv_iload_n hx hb d_Matches_index_31 rfl (lv_at hl 1 rfl) ?_
        obtain ⟨r5, hm6, hm⟩ := tp_b1_e hm
        refine tp_calli (wr := []) (WS' := [(q_mt, .inr (2, [.ref q_i, .ref q_mtb, .ref q_mtl, .int mt_from, .int mt_to, .int mt_len, .int mt_dist])), (q_i, .inr (3, [.ref q_iB, .int i_c])), (q_iB, .inl (cB, 10000, .inl i_f)), (q_mtb, .inl (cI, 10000, .inl mt_bef)), (q_mtl, .inl (cI, 2048, .inl mt_lat))]) (va_runV (As := [.int x1]) (rest := []) hF (ct_Matches_bucketOf (l := l) (D := D) (cB := cB) (cI := cI) (tM := tM) (q_mt := q_mt) (q_i := q_i) (q_iB := q_iB) (q_mtb := q_mtb) (q_mtl := q_mtl) (mt_from := mt_from) (mt_to := mt_to) (mt_len := mt_len) (mt_dist := mt_dist) (i_c := i_c) (i_f := i_f) (mt_bef := mt_bef) (mt_lat := mt_lat) (x1 := x1) (N := N) (r := r5) hm6 _) (cwV 1 hts (tpG_V wd_43 wd_44 wd_45 wd_42 wd_41) rfl rfl rfl ⟨rfl, yd_Matches_bucketOf⟩ ⟨Nat.le_of_ble_eq_true rfl, Nat.le_of_ble_eq_true rfl⟩) ⟨tp_blind, va_recv hw.1 hw.2.1 (ci := 2) (q0 := 0) rfl rfl, tp_pre hw [0, 1, 2, 3, 4] rfl rfl⟩ rfl rfl hl.1 rfl (lv_room (Nat.le_of_ble_eq_true rfl)) d_Matches_index_32 ⟨Nat.le_of_ble_eq_true rfl, Nat.le_of_ble_eq_true rfl⟩) hw [0, 1, 2, 3, 4] [] [0, 1, 2, 3, 4] rfl rfl rfl (by decide) rfl rfl (fun H locs hw => ?_)
        refine lv_sipush (v := (2047 : Int32)) hx hb d_Matches_index_35 (by decide +kernel) ?_
        refine lv_iand hx hb d_Matches_index_38 ?_
        refine lv_istore_n (lv' := [(2, .int (r5 &&& (2047 : Int32))), (0, .ref q_mt), (1, .int x1)]) hx hb d_Matches_index_39 rfl hl (by decide +kernel) rfl (fun ls hl => ?_)
        refine lv_aload_n hx hb d_Matches_index_40 rfl (lv_at hl 1 rfl) ?_
        refine tp_get (v := .ref q_mtb) (C := R_Matches) (T := T_Matches) hx hb hts fw_Matches hown hw 0 rfl rfl 1 (by decide +kernel) (hts _ wd_46) rfl d_Matches_index_41 ?_
        refine lv_iload_n hx hb d_Matches_index_44 rfl (lv_at hl 2 rfl) ?_
        refine lv_aload_n hx hb d_Matches_index_45 rfl (lv_at hl 1 rfl) ?_
        refine tp_get (v := .ref q_mtl) (C := R_Matches) (T := T_Matches) hx hb hts fw_Matches hown hw 0 rfl rfl 2 (by decide +kernel) (hts _ wd_36) rfl d_Matches_index_46 ?_
        refine lv_iload_n hx hb d_Matches_index_49 rfl (lv_at hl 0 rfl) ?_
        obtain ⟨hi7, hm⟩ := tp_gd_e hm
        refine tp_iald hx hb hw 4 1 rfl rfl hi7 d_Matches_index_50 ?_
        obtain ⟨hi8, hm⟩ := tp_gd_e hm
        refine tp_iast (WS' := [(q_mt, .inr (2, [.ref q_i, .ref q_mtb, .ref q_mtl, .int mt_from, .int mt_to, .int mt_len, .int mt_dist])), (q_i, .inr (3, [.ref q_iB, .int i_c])), (q_iB, .inl (cB, 10000, .inl i_f)), (q_mtb, .inl (cI, 10000, .inl (upd mt_bef (Int32.toNatClampNeg x1) (mt_lat (Int32.toNatClampNeg (r5 &&& (2047 : Int32))))))), (q_mtl, .inl (cI, 2048, .inl mt_lat))]) hx hb hw 3 1 rfl rfl hi8 rfl d_Matches_index_51 (fun H locs hw => ?_)
        refine lv_aload_n hx hb d_Matches_index_52 rfl (lv_at hl 1 rfl) ?_
        refine tp_get (v := .ref q_mtl) (C := R_Matches) (T := T_Matches) hx hb hts fw_Matches hown hw 0 rfl rfl 2 (by decide +kernel) (hts _ wd_36) rfl d_Matches_index_53 ?_
        refine lv_iload_n hx hb d_Matches_index_56 rfl (lv_at hl 0 rfl) ?_
        refine lv_iload_n hx hb d_Matches_index_57 rfl (lv_at hl 2 rfl) ?_
        obtain ⟨hi9, hm⟩ := tp_gd_e hm
        refine tp_iast (WS' := [(q_mt, .inr (2, [.ref q_i, .ref q_mtb, .ref q_mtl, .int mt_from, .int mt_to, .int mt_len, .int mt_dist])), (q_i, .inr (3, [.ref q_iB, .int i_c])), (q_iB, .inl (cB, 10000, .inl i_f)), (q_mtb, .inl (cI, 10000, .inl (upd mt_bef (Int32.toNatClampNeg x1) (mt_lat (Int32.toNatClampNeg (r5 &&& (2047 : Int32))))))), (q_mtl, .inl (cI, 2048, .inl (upd mt_lat (Int32.toNatClampNeg (r5 &&& (2047 : Int32))) x1)))]) hx hb hw 4 1 rfl rfl hi9 rfl d_Matches_index_58 (fun H locs hw => ?_)
        refine lv_iinc (v := (x1 + (1 : Int32))) (lv' := [(1, .int (x1 + (1 : Int32))), (2, .int (r5 &&& (2047 : Int32))), (0, .ref q_mt)]) hx hb d_Matches_index_59 hl (k := 2) rfl rfl (by decide +kernel) rfl (fun ls hl => ?_)
        refine lv_goto (tgt := 10) hx hb d_Matches_index_62 (by decide +kernel) ?_
        exact ih10 _ _ _ _ _ _ hm hw (lv_sub hl [2, 0] rfl)
set_option maxHeartbeats 4000000 in
set_option maxRecDepth 100000 in
theorem ct_Matches_index {q_mt q_i q_iB q_mtb q_mtl : Nat} {mt_from : Int32} {mt_to : Int32} {mt_len : Int32} {mt_dist : Int32} {i_c : Int32} {i_f : Nat → Int32} {mt_bef : Nat → Int32} {mt_lat : Nat → Int32} {N : Nat} {mt_bef' : Nat → Int32} {mt_lat' : Nat → Int32} (hm : m_Matches_index N i_c i_f mt_bef mt_lat = some (mt_bef', mt_lat')) (sz : Nat) : tp_Cv l y_Matches_index ws_Matches_index rm_Matches_index D (tp_ty cB cI) tM [.ref q_mt] [(q_mt, .inr (2, [.ref q_i, .ref q_mtb, .ref q_mtl, .int mt_from, .int mt_to, .int mt_len, .int mt_dist])), (q_i, .inr (3, [.ref q_iB, .int i_c])), (q_iB, .inl (cB, 10000, .inl i_f)), (q_mtb, .inl (cI, 10000, .inl mt_bef)), (q_mtl, .inl (cI, 2048, .inl mt_lat))] sz [(q_mt, .inr (2, [.ref q_i, .ref q_mtb, .ref q_mtl, .int mt_from, .int mt_to, .int mt_len, .int mt_dist])), (q_i, .inr (3, [.ref q_iB, .int i_c])), (q_iB, .inl (cB, 10000, .inl i_f)), (q_mtb, .inl (cI, 10000, .inl mt_bef')), (q_mtl, .inl (cI, 2048, .inl mt_lat'))] := by
  refine Met.ofW (cc := c_Matches_index) (maxL := 3) (ret := none) (by decide) rfl ?_
  intro p e s m args below meth c s₁ B hml hv
  obtain ⟨rfl, hv⟩ := hv
  have hw := tp_entry hv
  generalize va_A [(q_mt, .inr (2, [.ref q_i, .ref q_mtb, .ref q_mtl, .int mt_from, .int mt_to, .int mt_len, .int mt_dist])), (q_i, .inr (3, [.ref q_iB, .int i_c])), (q_iB, .inl (cB, 10000, .inl i_f)), (q_mtb, .inl (cI, 10000, .inl mt_bef)), (q_mtl, .inl (cI, 2048, .inl mt_lat))] sz = A at hw ⊢
  have hx := B.exec
  have hb := B.bytes
  have hr := B.returns
  have hts0 := atoms_spec (ws := ws_Matches_index) B.pre
  have hts := fun w h => hts0 w (List.mem_cons_of_mem _ h)
  have hown : s.vm.findClass R_Matches = some m.cls := findClass_of_methodNamed B.named
  have hlocks := B.notSynchronized
  have hF : CallFix p m c c_Matches_index 3 s _ tpG R_Matches := ⟨hx, hb, hml, hown, hts⟩
  have hF2 : tp_F p m c c_Matches_index 3 s _ tpG R_Matches meth none := ⟨hF, hr, hlocks⟩
  have hl := lv_entry ([.ref q_mt]) (n := 3) (Nat.le_of_ble_eq_true rfl)
  rw [lg_entry_eq]
  generalize (lg_sl ([.ref q_mt]) ++ List.replicate (3 - (lg_sl ([.ref q_mt])).length) Slot.unset).toArray = ls at hl ⊢
  replace hl : lv_has ls 3 [(0, .ref q_mt)] := hl
  unfold m_Matches_index at hm
  refine lv_aload_n hx hb d_Matches_index_0 rfl (lv_at hl 0 rfl) ?_
  refine tp_get (v := .ref q_mtl) (C := R_Matches) (T := T_Matches) hx hb hts fw_Matches hown hw 0 rfl rfl 2 (by decide +kernel) (hts _ wd_36) rfl d_Matches_index_1 ?_
  refine lv_iconst (v := (-1 : Int32)) hx hb d_Matches_index_4 (by decide +kernel) ?_
  obtain ⟨z_f_1, hm2, hm⟩ := tp_b1_e hm
  refine tp_callv (wr := [(q_mt, .inr (2, [.ref q_i, .ref q_mtb, .ref q_mtl, .int mt_from, .int mt_to, .int mt_len, .int mt_dist])), (q_i, .inr (3, [.ref q_iB, .int i_c])), (q_iB, .inl (cB, 10000, .inl i_f)), (q_mtb, .inl (cI, 10000, .inl mt_bef))]) (WS' := [(q_mt, .inr (2, [.ref q_i, .ref q_mtb, .ref q_mtl, .int mt_from, .int mt_to, .int mt_len, .int mt_dist])), (q_i, .inr (3, [.ref q_iB, .int i_c])), (q_iB, .inl (cB, 10000, .inl i_f)), (q_mtb, .inl (cI, 10000, .inl mt_bef)), (q_mtl, .inl (cI, 2048, .inl z_f_1))]) (va_runS (As := [.ref q_mtl, .int (-1 : Int32)]) (rest := []) hF (ct_Ar_fill (l := l) (D := D) (cB := cB) (cI := cI) (tM := tM) (q_z := q_mtl) (z_f := mt_lat) (x1 := (-1 : Int32)) (N := N) (z_f' := z_f_1) hm2 _) (va_cwS 2 hts (tpG_S wd_39 wd_40 wd_38 wd_37) rfl rfl rfl yd_Ar_fill ⟨Nat.le_of_ble_eq_true rfl, Nat.le_of_ble_eq_true rfl⟩) ⟨tp_blind, tp_pre hw [4] rfl rfl⟩ rfl rfl hl.1 rfl (lv_room (Nat.le_of_ble_eq_true rfl)) d_Matches_index_5 ⟨Nat.le_of_ble_eq_true rfl, Nat.le_of_ble_eq_true rfl⟩) hw [4] [0, 1, 2, 3] [0, 1, 2, 3, 4] rfl rfl rfl (by decide) rfl rfl (fun H locs hw => ?_)
  refine lv_iconst (v := (0 : Int32)) hx hb d_Matches_index_8 (by decide +kernel) ?_
  refine lv_istore_n (lv' := [(1, .int (0 : Int32)), (0, .ref q_mt)]) hx hb d_Matches_index_9 rfl hl (by decide +kernel) rfl (fun ls hl => ?_)
  exact w_Matches_index_10 hF2  N _ _ _ _ _ _ hm hw (lv_sub hl [1, 0] rfl)
end
abbrev rm_Matches_keepWithin : Room := { frames := 1, cells := 0, slots := 0, locals := 15 }
abbrev ws_Matches_keepWithin : List Cond := .code y_Matches_keepWithin c_Matches_keepWithin 3 none :: tpG
noncomputable def m_Matches_keepWithin (x1 : Int32) (x2 : Int32) (mt_from : Int32) (mt_to : Int32) (i_c : Int32) : Option (Int32 × Int32) :=
  tp_b0 (if x1 < (0 : Int32) then (0 : Int32) else x1) fun y1 =>
  tp_b0 (if i_c < x2 then i_c else x2) fun y2 =>
  some (y1, y2)
section
variable {p : Program} {l : Launch} {e : Env} {s : State} {m : MethodId} {args : Array Value} {below : List Frame} {meth : Method} {c : Code} {A : Nat → Prop} {D : va_G} {cB cI : ClassId} {tM : Nat}
set_option maxHeartbeats 4000000 in
set_option maxRecDepth 100000 in
theorem ct_Matches_keepWithin {q_mt q_i q_iB q_mtb q_mtl : Nat} {mt_from : Int32} {mt_to : Int32} {mt_len : Int32} {mt_dist : Int32} {i_c : Int32} {i_f : Nat → Int32} {mt_bef : Nat → Int32} {mt_lat : Nat → Int32} {x1 : Int32} {x2 : Int32} {mt_from' : Int32} {mt_to' : Int32} (hm : m_Matches_keepWithin x1 x2 mt_from mt_to i_c = some (mt_from', mt_to')) (sz : Nat) : tp_Cv l y_Matches_keepWithin ws_Matches_keepWithin rm_Matches_keepWithin D (tp_ty cB cI) tM [.ref q_mt, .int x1, .int x2] [(q_mt, .inr (2, [.ref q_i, .ref q_mtb, .ref q_mtl, .int mt_from, .int mt_to, .int mt_len, .int mt_dist])), (q_i, .inr (3, [.ref q_iB, .int i_c])), (q_iB, .inl (cB, 10000, .inl i_f)), (q_mtb, .inl (cI, 10000, .inl mt_bef)), (q_mtl, .inl (cI, 2048, .inl mt_lat))] sz [(q_mt, .inr (2, [.ref q_i, .ref q_mtb, .ref q_mtl, .int mt_from', .int mt_to', .int mt_len, .int mt_dist])), (q_i, .inr (3, [.ref q_iB, .int i_c])), (q_iB, .inl (cB, 10000, .inl i_f)), (q_mtb, .inl (cI, 10000, .inl mt_bef)), (q_mtl, .inl (cI, 2048, .inl mt_lat))] := by
  refine Met.ofW (cc := c_Matches_keepWithin) (maxL := 3) (ret := none) (by decide) rfl ?_
  intro p e s m args below meth c s₁ B hml hv
  obtain ⟨rfl, hv⟩ := hv
  have hw := tp_entry hv
  generalize va_A [(q_mt, .inr (2, [.ref q_i, .ref q_mtb, .ref q_mtl, .int mt_from, .int mt_to, .int mt_len, .int mt_dist])), (q_i, .inr (3, [.ref q_iB, .int i_c])), (q_iB, .inl (cB, 10000, .inl i_f)), (q_mtb, .inl (cI, 10000, .inl mt_bef)), (q_mtl, .inl (cI, 2048, .inl mt_lat))] sz = A at hw ⊢
  have hx := B.exec
  have hb := B.bytes
  have hr := B.returns
  have hts0 := atoms_spec (ws := ws_Matches_keepWithin) B.pre
  have hts := fun w h => hts0 w (List.mem_cons_of_mem _ h)
  have hown : s.vm.findClass R_Matches = some m.cls := findClass_of_methodNamed B.named
  have hlocks := B.notSynchronized
  have hF : CallFix p m c c_Matches_keepWithin 3 s _ tpG R_Matches := ⟨hx, hb, hml, hown, hts⟩
  have hF2 : tp_F p m c c_Matches_keepWithin 3 s _ tpG R_Matches meth none := ⟨hF, hr, hlocks⟩
  have hl := lv_entry ([.ref q_mt, .int x1, .int x2]) (n := 3) (Nat.le_of_ble_eq_true rfl)
  rw [lg_entry_eq]
  generalize (lg_sl ([.ref q_mt, .int x1, .int x2]) ++ List.replicate (3 - (lg_sl ([.ref q_mt, .int x1, .int x2])).length) Slot.unset).toArray = ls at hl ⊢
  replace hl : lv_has ls 3 [(0, .ref q_mt), (1, .int x1), (2, .int x2)] := hl
  unfold m_Matches_keepWithin at hm
  refine lv_aload_n hx hb d_Matches_keepWithin_0 rfl (lv_at hl 0 rfl) ?_
  refine lv_iload_n hx hb d_Matches_keepWithin_1 rfl (lv_at hl 1 rfl) ?_
  refine lv_iconst (v := (0 : Int32)) hx hb d_Matches_keepWithin_2 (by decide +kernel) ?_
  refine va_mmax hx hb (hml.trans hl.1.symm) hown (hts _ wd_47) (hts _ wd_48) (hts _ wd_49) (hts _ wd_50) (Nat.le_of_ble_eq_true rfl) (Nat.le_of_ble_eq_true rfl) (Nat.le_of_ble_eq_true rfl) (Nat.le_of_ble_eq_true rfl) d_Matches_keepWithin_3 ?_
  obtain ⟨y1, ey1, hm⟩ := tp_b0_e hm
  refine tp_topi ey1 ?_
  refine tp_put (v := .int y1) (C := R_Matches) (T := T_Matches) (WS' := [(q_mt, .inr (2, [.ref q_i, .ref q_mtb, .ref q_mtl, .int y1, .int mt_to, .int mt_len, .int mt_dist])), (q_i, .inr (3, [.ref q_iB, .int i_c])), (q_iB, .inl (cB, 10000, .inl i_f)), (q_mtb, .inl (cI, 10000, .inl mt_bef)), (q_mtl, .inl (cI, 2048, .inl mt_lat))]) hx hb hts fw_Matches ty_Matches ty_Matches_ok nm_Matches hown hw 0 rfl rfl 3 (by decide +kernel) (hts _ wd_51) rfl rfl rfl (Nat.le_of_ble_eq_true rfl) rfl d_Matches_keepWithin_6 (fun H locs hw => ?_)
  refine lv_aload_n hx hb d_Matches_keepWithin_9 rfl (lv_at hl 0 rfl) ?_
  refine lv_iload_n hx hb d_Matches_keepWithin_10 rfl (lv_at hl 2 rfl) ?_
  refine lv_aload_n hx hb d_Matches_keepWithin_11 rfl (lv_at hl 0 rfl) ?_
  refine tp_get (v := .ref q_i) (C := R_Matches) (T := T_Matches) hx hb hts fw_Matches hown hw 0 rfl rfl 0 (by decide +kernel) (hts _ wd_30) rfl d_Matches_keepWithin_12 ?_
  refine tp_getN (v := .int i_c) (C := R_Row) (T := T_Row) hx hb hts fw_Row hown hw 1 rfl rfl 1 (by decide +kernel) nw_0 rfl d_Matches_keepWithin_15 ?_
  refine va_mmin hx hb (hml.trans hl.1.symm) hown (hts _ wd_52) (hts _ wd_53) (hts _ wd_49) (hts _ wd_54) (Nat.le_of_ble_eq_true rfl) (Nat.le_of_ble_eq_true rfl) (Nat.le_of_ble_eq_true rfl) (Nat.le_of_ble_eq_true rfl) d_Matches_keepWithin_18 ?_
  obtain ⟨y2, ey2, hm⟩ := tp_b0_e hm
  refine tp_topi ey2 ?_
  refine tp_put (v := .int y2) (C := R_Matches) (T := T_Matches) (WS' := [(q_mt, .inr (2, [.ref q_i, .ref q_mtb, .ref q_mtl, .int y1, .int y2, .int mt_len, .int mt_dist])), (q_i, .inr (3, [.ref q_iB, .int i_c])), (q_iB, .inl (cB, 10000, .inl i_f)), (q_mtb, .inl (cI, 10000, .inl mt_bef)), (q_mtl, .inl (cI, 2048, .inl mt_lat))]) hx hb hts fw_Matches ty_Matches ty_Matches_ok nm_Matches hown hw 0 rfl rfl 4 (by decide +kernel) (hts _ wd_55) rfl rfl rfl (Nat.le_of_ble_eq_true rfl) rfl d_Matches_keepWithin_21 (fun H locs hw => ?_)
  obtain ⟨rfl, rfl⟩ := tp_inj2 hm
  exact tp_vret () hx hb hr hlocks hw d_Matches_keepWithin_24
end
abbrev rm_Matches_earlier : Room := { frames := 0, cells := 0, slots := 0, locals := 0 }
abbrev ws_Matches_earlier : List Cond := .code y_Matches_earlier c_Matches_earlier 2 (some .int) :: tpG
noncomputable def m_Matches_earlier (x1 : Int32) (mt_to : Int32) (mt_bef : Nat → Int32) : Option (Int32) :=
  if x1 < 0 then
    some ((-1 : Int32))
  else
    if (10000 : Int32) ≤ x1 then
      some ((-1 : Int32))
    else
      if mt_to < (x1 + (4 : Int32)) then
        some ((-1 : Int32))
      else
        tp_gd (tp_inb x1 10000) <|
        some ((mt_bef (Int32.toNatClampNeg x1)))
section
variable {p : Program} {l : Launch} {e : Env} {s : State} {m : MethodId} {args : Array Value} {below : List Frame} {meth : Method} {c : Code} {A : Nat → Prop} {D : va_G} {cB cI : ClassId} {tM : Nat}
set_option maxHeartbeats 4000000 in
set_option maxRecDepth 100000 in
theorem ct_Matches_earlier {q_mt q_i q_iB q_mtb q_mtl : Nat} {mt_from : Int32} {mt_to : Int32} {mt_len : Int32} {mt_dist : Int32} {i_c : Int32} {i_f : Nat → Int32} {mt_bef : Nat → Int32} {mt_lat : Nat → Int32} {x1 : Int32} {r : Int32} (hm : m_Matches_earlier x1 mt_to mt_bef = some (r)) (sz : Nat) : tp_Ci l y_Matches_earlier ws_Matches_earlier rm_Matches_earlier D (tp_ty cB cI) tM [.ref q_mt, .int x1] [(q_mt, .inr (2, [.ref q_i, .ref q_mtb, .ref q_mtl, .int mt_from, .int mt_to, .int mt_len, .int mt_dist])), (q_i, .inr (3, [.ref q_iB, .int i_c])), (q_iB, .inl (cB, 10000, .inl i_f)), (q_mtb, .inl (cI, 10000, .inl mt_bef)), (q_mtl, .inl (cI, 2048, .inl mt_lat))] sz r [(q_mt, .inr (2, [.ref q_i, .ref q_mtb, .ref q_mtl, .int mt_from, .int mt_to, .int mt_len, .int mt_dist])), (q_i, .inr (3, [.ref q_iB, .int i_c])), (q_iB, .inl (cB, 10000, .inl i_f)), (q_mtb, .inl (cI, 10000, .inl mt_bef)), (q_mtl, .inl (cI, 2048, .inl mt_lat))] := by
  refine Met.ofW (cc := c_Matches_earlier) (maxL := 2) (ret := (some .int)) (by decide) rfl ?_
  intro p e s m args below meth c s₁ B hml hv
  obtain ⟨rfl, hv⟩ := hv
  have hw := tp_entry hv
  generalize va_A [(q_mt, .inr (2, [.ref q_i, .ref q_mtb, .ref q_mtl, .int mt_from, .int mt_to, .int mt_len, .int mt_dist])), (q_i, .inr (3, [.ref q_iB, .int i_c])), (q_iB, .inl (cB, 10000, .inl i_f)), (q_mtb, .inl (cI, 10000, .inl mt_bef)), (q_mtl, .inl (cI, 2048, .inl mt_lat))] sz = A at hw ⊢
  have hx := B.exec
  have hb := B.bytes
  have hr := B.returns
  have hts0 := atoms_spec (ws := ws_Matches_earlier) B.pre
  have hts := fun w h => hts0 w (List.mem_cons_of_mem _ h)
  have hown : s.vm.findClass R_Matches = some m.cls := findClass_of_methodNamed B.named
  have hlocks := B.notSynchronized
  have hF : CallFix p m c c_Matches_earlier 2 s _ tpG R_Matches := ⟨hx, hb, hml, hown, hts⟩
  have hF2 : tp_F p m c c_Matches_earlier 2 s _ tpG R_Matches meth (some .int) := ⟨hF, hr, hlocks⟩
  have hl := lv_entry ([.ref q_mt, .int x1]) (n := 2) (Nat.le_of_ble_eq_true rfl)
  rw [lg_entry_eq]
  generalize (lg_sl ([.ref q_mt, .int x1]) ++ List.replicate (2 - (lg_sl ([.ref q_mt, .int x1])).length) Slot.unset).toArray = ls at hl ⊢
  replace hl : lv_has ls 2 [(0, .ref q_mt), (1, .int x1)] := hl
  unfold m_Matches_earlier at hm
  refine lv_iload_n hx hb d_Matches_earlier_0 rfl (lv_at hl 1 rfl) ?_
  refine lv_if_lt (tgt := 30) hx hb d_Matches_earlier_1 (by decide +kernel) (fun hc1 => ?_) (fun hc1 => ?_)
  · replace hm := tp_it hc1 hm
    refine lv_iconst (v := (-1 : Int32)) hx hb d_Matches_earlier_30 (by decide +kernel) ?_
    obtain rfl := tp_inj1 hm
    exact tp_iret hx hb hr hlocks hw d_Matches_earlier_31
  · replace hm := tp_if hc1 hm
    refine lv_iload_n hx hb d_Matches_earlier_4 rfl (lv_at hl 1 rfl) ?_
    refine lv_sipush (v := (10000 : Int32)) hx hb d_Matches_earlier_5 (by decide +kernel) ?_
    refine lv_icmp_ge (tgt := 30) hx hb d_Matches_earlier_8 (by decide +kernel) (fun hc2 => ?_) (fun hc2 => ?_)
    · replace hm := tp_it hc2 hm
      refine lv_iconst (v := (-1 : Int32)) hx hb d_Matches_earlier_30 (by decide +kernel) ?_
      obtain rfl := tp_inj1 hm
      exact tp_iret hx hb hr hlocks hw d_Matches_earlier_31
    · replace hm := tp_if hc2 hm
      refine lv_iload_n hx hb d_Matches_earlier_11 rfl (lv_at hl 1 rfl) ?_
      refine lv_iconst (v := (4 : Int32)) hx hb d_Matches_earlier_12 (by decide +kernel) ?_
      refine lv_iadd hx hb d_Matches_earlier_13 ?_
      refine lv_aload_n hx hb d_Matches_earlier_14 rfl (lv_at hl 0 rfl) ?_
      refine tp_get (v := .int mt_to) (C := R_Matches) (T := T_Matches) hx hb hts fw_Matches hown hw 0 rfl rfl 4 (by decide +kernel) (hts _ wd_55) rfl d_Matches_earlier_15 ?_
      refine lv_icmp_gt (tgt := 30) hx hb d_Matches_earlier_18 (by decide +kernel) (fun hc3 => ?_) (fun hc3 => ?_)
      · replace hm := tp_it hc3 hm
        refine lv_iconst (v := (-1 : Int32)) hx hb d_Matches_earlier_30 (by decide +kernel) ?_
        obtain rfl := tp_inj1 hm
        exact tp_iret hx hb hr hlocks hw d_Matches_earlier_31
      · replace hm := tp_if hc3 hm
        refine lv_aload_n hx hb d_Matches_earlier_21 rfl (lv_at hl 0 rfl) ?_
        refine tp_get (v := .ref q_mtb) (C := R_Matches) (T := T_Matches) hx hb hts fw_Matches hown hw 0 rfl rfl 1 (by decide +kernel) (hts _ wd_46) rfl d_Matches_earlier_22 ?_
        refine lv_iload_n hx hb d_Matches_earlier_25 rfl (lv_at hl 1 rfl) ?_
        obtain ⟨hi4, hm⟩ := tp_gd_e hm
        refine tp_iald hx hb hw 3 1 rfl rfl hi4 d_Matches_earlier_26 ?_
        refine lv_goto (tgt := 31) hx hb d_Matches_earlier_27 (by decide +kernel) ?_
        obtain rfl := tp_inj1 hm
        exact tp_iret hx hb hr hlocks hw d_Matches_earlier_31
end
abbrev rm_Matches_alike : Room := { frames := 0, cells := 0, slots := 0, locals := 0 }
abbrev ws_Matches_alike : List Cond := .code y_Matches_alike c_Matches_alike 5 (some .int) :: tpG
noncomputable def m_Matches_alike_14 (N : Nat) (i_f : Nat → Int32) (rec14 : Int32 → Int32 → Int32 → Int32 → Option (Int32)) (x1 : Int32) (x2 : Int32) (x3 : Int32) (x4 : Int32) : Option (Int32) :=
  if x3 ≤ (x2 + x4) then
    some (x4)
  else
    if (10000 : Int32) ≤ (x2 + x4) then
      some (x4)
    else
      tp_gd (tp_inb (x1 + x4) 10000) <|
      tp_gd (tp_inb (x2 + x4) 10000) <|
      if (i_f (Int32.toNatClampNeg (x1 + x4))) = (i_f (Int32.toNatClampNeg (x2 + x4))) then
        rec14 x1 x2 x3 (x4 + (1 : Int32))
      else
        some (x4)
noncomputable def m_Matches_alike (N : Nat) (x1 : Int32) (x2 : Int32) (x3 : Int32) (i_f : Nat → Int32) : Option (Int32) :=
  if x1 < 0 then
    some ((0 : Int32))
  else
    if x1 < x2 then
      tp_it4 (m_Matches_alike_14 N i_f ) N x1 x2 x3 (0 : Int32)
    else
      some ((0 : Int32))
section
variable {p : Program} {l : Launch} {e : Env} {s : State} {m : MethodId} {args : Array Value} {below : List Frame} {meth : Method} {c : Code} {A : Nat → Prop} {D : va_G} {cB cI : ClassId} {tM : Nat}
set_option maxHeartbeats 4000000 in
set_option maxRecDepth 100000 in
theorem w_Matches_alike_14 {q_mt q_i q_iB q_mtb q_mtl : Nat} {mt_from : Int32} {mt_to : Int32} {mt_len : Int32} {mt_dist : Int32} {i_c : Int32} {i_f : Nat → Int32} {mt_bef : Nat → Int32} {mt_lat : Nat → Int32} {N : Nat} {r : Int32} (hF2 : tp_F p m c c_Matches_alike 5 s args tpG R_Matches meth (some .int)) : ∀ (n : Nat), ∀ (x1 : Int32) (x2 : Int32) (x3 : Int32) (x4 : Int32) (H : Heap) (locs : List Loc) (ls : Array Slot), tp_it4 (m_Matches_alike_14 N i_f ) n x1 x2 x3 x4 = some (r) → tp_Wd D (tp_ty cB cI) tM A s H locs [(q_mt, .inr (2, [.ref q_i, .ref q_mtb, .ref q_mtl, .int mt_from, .int mt_to, .int mt_len, .int mt_dist])), (q_i, .inr (3, [.ref q_iB, .int i_c])), (q_iB, .inl (cB, 10000, .inl i_f)), (q_mtb, .inl (cI, 10000, .inl mt_bef)), (q_mtl, .inl (cI, 2048, .inl mt_lat))] → lv_has ls 5 [(0, .ref q_mt), (1, .int x1), (2, .int x2), (3, .int x3), (4, .int x4)] → W p l e rm_Matches_alike s m args below meth c H locs 0 0 (MQ below (tp_Qi D A r [(q_mt, .inr (2, [.ref q_i, .ref q_mtb, .ref q_mtl, .int mt_from, .int mt_to, .int mt_len, .int mt_dist])), (q_i, .inr (3, [.ref q_iB, .int i_c])), (q_iB, .inl (cB, 10000, .inl i_f)), (q_mtb, .inl (cI, 10000, .inl mt_bef)), (q_mtl, .inl (cI, 2048, .inl mt_lat))]) args s 0 0 A) (F0 m 14 ls []) := by
  obtain ⟨hF, hr, hlocks⟩ := id hF2
  obtain ⟨hx, hb, hml, hown, hts⟩ := id hF
  intro n
  induction n with
  | zero => intro x1 x2 x3 x4 H locs ls hm; exact absurd hm (by simp [tp_it4])
  | succ n ih14 =>
    intro x1 x2 x3 x4 H locs ls hm hw hl
    replace hm : m_Matches_alike_14 N i_f  (tp_it4 (m_Matches_alike_14 N i_f ) n) x1 x2 x3 x4 = some (r) := hm
    unfold m_Matches_alike_14 at hm
    refine lv_iload_n hx hb d_Matches_alike_14 rfl (lv_at hl 2 rfl) ?_
    refine lv_iload hx hb d_Matches_alike_15 (lv_at hl 4 rfl) ?_
    refine lv_iadd hx hb d_Matches_alike_17 ?_
    refine lv_iload_n hx hb d_Matches_alike_18 rfl (lv_at hl 3 rfl) ?_
    refine lv_icmp_ge (tgt := 65) hx hb d_Matches_alike_19 (by decide +kernel) (fun hc3 => ?_) (fun hc3 => ?_)
    · replace hm := tp_it hc3 hm
      refine lv_iload hx hb d_Matches_alike_65 (lv_at hl 4 rfl) ?_
      obtain rfl := tp_inj1 hm
      exact tp_iret hx hb hr hlocks hw d_Matches_alike_67
    · replace hm := tp_if hc3 hm
      refine lv_iload_n hx hb d_Matches_alike_22 rfl (lv_at hl 2 rfl) ?_
      refine lv_iload hx hb d_Matches_alike_23 (lv_at hl 4 rfl) ?_
      refine lv_iadd hx hb d_Matches_alike_25 ?_
      refine lv_sipush (v := (10000 : Int32)) hx hb d_Matches_alike_26 (by decide +kernel) ?_
      refine lv_icmp_ge (tgt := 65) hx hb d_Matches_alike_29 (by decide +kernel) (fun hc4 => ?_) (fun hc4 => ?_)
      · replace hm := tp_it hc4 hm
        refine lv_iload hx hb d_Matches_alike_65 (lv_at hl 4 rfl) ?_
        obtain rfl := tp_inj1 hm
        exact tp_iret hx hb hr hlocks hw d_Matches_alike_67
      · replace hm := tp_if hc4 hm
        refine lv_aload_n hx hb d_Matches_alike_32 rfl (lv_at hl 0 rfl) ?_
        refine tp_get (v := .ref q_i) (C := R_Matches) (T := T_Matches) hx hb hts fw_Matches hown hw 0 rfl rfl 0 (by decide +kernel) (hts _ wd_30) rfl d_Matches_alike_33 ?_
        refine tp_getN (v := .ref q_iB) (C := R_Row) (T := T_Row) hx hb hts fw_Row hown hw 1 rfl rfl 0 (by decide +kernel) nw_1 rfl d_Matches_alike_36 ?_
        refine lv_iload_n hx hb d_Matches_alike_39 rfl (lv_at hl 1 rfl) ?_
        refine lv_iload hx hb d_Matches_alike_40 (lv_at hl 4 rfl) ?_
        refine lv_iadd hx hb d_Matches_alike_42 ?_
        obtain ⟨hi5, hm⟩ := tp_gd_e hm
        refine tp_bald hx hb hw 2 0 rfl rfl hi5 d_Matches_alike_43 ?_
        refine lv_aload_n hx hb d_Matches_alike_44 rfl (lv_at hl 0 rfl) ?_
        refine tp_get (v := .ref q_i) (C := R_Matches) (T := T_Matches) hx hb hts fw_Matches hown hw 0 rfl rfl 0 (by decide +kernel) (hts _ wd_30) rfl d_Matches_alike_45 ?_
        refine tp_getN (v := .ref q_iB) (C := R_Row) (T := T_Row) hx hb hts fw_Row hown hw 1 rfl rfl 0 (by decide +kernel) nw_1 rfl d_Matches_alike_48 ?_
        refine lv_iload_n hx hb d_Matches_alike_51 rfl (lv_at hl 2 rfl) ?_
        refine lv_iload hx hb d_Matches_alike_52 (lv_at hl 4 rfl) ?_
        refine lv_iadd hx hb d_Matches_alike_54 ?_
        obtain ⟨hi6, hm⟩ := tp_gd_e hm
        refine tp_bald hx hb hw 2 0 rfl rfl hi6 d_Matches_alike_55 ?_
        refine lv_icmp_ne (tgt := 65) hx hb d_Matches_alike_56 (by decide +kernel) (fun hc7 => ?_) (fun hc7 => ?_)
        · replace hm := tp_if hc7 hm
          refine lv_iload hx hb d_Matches_alike_65 (lv_at hl 4 rfl) ?_
          obtain rfl := tp_inj1 hm
          exact tp_iret hx hb hr hlocks hw d_Matches_alike_67
        · replace hm := tp_it hc7 hm
          refine lv_iinc (v := (x4 + (1 : Int32))) (lv' := [(4, .int (x4 + (1 : Int32))), (0, .ref q_mt), (1, .int x1), (2, .int x2), (3, .int x3)]) hx hb d_Matches_alike_59 hl (k := 4) rfl rfl (by decide +kernel) rfl (fun ls hl => ?_)
          refine lv_goto (tgt := 14) hx hb d_Matches_alike_62 (by decide +kernel) ?_
          exact ih14 _ _ _ _ _ _ _ hm hw (lv_sub hl [1, 2, 3, 4, 0] rfl)
set_option maxHeartbeats 4000000 in
set_option maxRecDepth 100000 in
theorem ct_Matches_alike {q_mt q_i q_iB q_mtb q_mtl : Nat} {mt_from : Int32} {mt_to : Int32} {mt_len : Int32} {mt_dist : Int32} {i_c : Int32} {i_f : Nat → Int32} {mt_bef : Nat → Int32} {mt_lat : Nat → Int32} {N : Nat} {x1 : Int32} {x2 : Int32} {x3 : Int32} {r : Int32} (hm : m_Matches_alike N x1 x2 x3 i_f = some (r)) (sz : Nat) : tp_Ci l y_Matches_alike ws_Matches_alike rm_Matches_alike D (tp_ty cB cI) tM [.ref q_mt, .int x1, .int x2, .int x3] [(q_mt, .inr (2, [.ref q_i, .ref q_mtb, .ref q_mtl, .int mt_from, .int mt_to, .int mt_len, .int mt_dist])), (q_i, .inr (3, [.ref q_iB, .int i_c])), (q_iB, .inl (cB, 10000, .inl i_f)), (q_mtb, .inl (cI, 10000, .inl mt_bef)), (q_mtl, .inl (cI, 2048, .inl mt_lat))] sz r [(q_mt, .inr (2, [.ref q_i, .ref q_mtb, .ref q_mtl, .int mt_from, .int mt_to, .int mt_len, .int mt_dist])), (q_i, .inr (3, [.ref q_iB, .int i_c])), (q_iB, .inl (cB, 10000, .inl i_f)), (q_mtb, .inl (cI, 10000, .inl mt_bef)), (q_mtl, .inl (cI, 2048, .inl mt_lat))] := by
  refine Met.ofW (cc := c_Matches_alike) (maxL := 5) (ret := (some .int)) (by decide) rfl ?_
  intro p e s m args below meth c s₁ B hml hv
  obtain ⟨rfl, hv⟩ := hv
  have hw := tp_entry hv
  generalize va_A [(q_mt, .inr (2, [.ref q_i, .ref q_mtb, .ref q_mtl, .int mt_from, .int mt_to, .int mt_len, .int mt_dist])), (q_i, .inr (3, [.ref q_iB, .int i_c])), (q_iB, .inl (cB, 10000, .inl i_f)), (q_mtb, .inl (cI, 10000, .inl mt_bef)), (q_mtl, .inl (cI, 2048, .inl mt_lat))] sz = A at hw ⊢
  have hx := B.exec
  have hb := B.bytes
  have hr := B.returns
  have hts0 := atoms_spec (ws := ws_Matches_alike) B.pre
  have hts := fun w h => hts0 w (List.mem_cons_of_mem _ h)
  have hown : s.vm.findClass R_Matches = some m.cls := findClass_of_methodNamed B.named
  have hlocks := B.notSynchronized
  have hF : CallFix p m c c_Matches_alike 5 s _ tpG R_Matches := ⟨hx, hb, hml, hown, hts⟩
  have hF2 : tp_F p m c c_Matches_alike 5 s _ tpG R_Matches meth (some .int) := ⟨hF, hr, hlocks⟩
  have hl := lv_entry ([.ref q_mt, .int x1, .int x2, .int x3]) (n := 5) (Nat.le_of_ble_eq_true rfl)
  rw [lg_entry_eq]
  generalize (lg_sl ([.ref q_mt, .int x1, .int x2, .int x3]) ++ List.replicate (5 - (lg_sl ([.ref q_mt, .int x1, .int x2, .int x3])).length) Slot.unset).toArray = ls at hl ⊢
  replace hl : lv_has ls 5 [(0, .ref q_mt), (1, .int x1), (2, .int x2), (3, .int x3)] := hl
  unfold m_Matches_alike at hm
  refine lv_iload_n hx hb d_Matches_alike_0 rfl (lv_at hl 1 rfl) ?_
  refine lv_if_lt (tgt := 9) hx hb d_Matches_alike_1 (by decide +kernel) (fun hc1 => ?_) (fun hc1 => ?_)
  · replace hm := tp_it hc1 hm
    refine lv_iconst (v := (0 : Int32)) hx hb d_Matches_alike_9 (by decide +kernel) ?_
    obtain rfl := tp_inj1 hm
    exact tp_iret hx hb hr hlocks hw d_Matches_alike_10
  · replace hm := tp_if hc1 hm
    refine lv_iload_n hx hb d_Matches_alike_4 rfl (lv_at hl 1 rfl) ?_
    refine lv_iload_n hx hb d_Matches_alike_5 rfl (lv_at hl 2 rfl) ?_
    refine lv_icmp_lt (tgt := 11) hx hb d_Matches_alike_6 (by decide +kernel) (fun hc2 => ?_) (fun hc2 => ?_)
    · replace hm := tp_it hc2 hm
      refine lv_iconst (v := (0 : Int32)) hx hb d_Matches_alike_11 (by decide +kernel) ?_
      refine lv_istore (lv' := [(4, .int (0 : Int32)), (0, .ref q_mt), (1, .int x1), (2, .int x2), (3, .int x3)]) hx hb d_Matches_alike_12 hl (by decide +kernel) rfl (fun ls hl => ?_)
      exact w_Matches_alike_14 hF2  N _ _ _ _ _ _ _ hm hw (lv_sub hl [1, 2, 3, 4, 0] rfl)
    · replace hm := tp_if hc2 hm
      refine lv_iconst (v := (0 : Int32)) hx hb d_Matches_alike_9 (by decide +kernel) ?_
      obtain rfl := tp_inj1 hm
      exact tp_iret hx hb hr hlocks hw d_Matches_alike_10
end
abbrev rm_Matches_findNearest : Room := { frames := 1, cells := 0, slots := 0, locals := 24 }
abbrev ws_Matches_findNearest : List Cond := .code y_Matches_findNearest c_Matches_findNearest 5 none :: tpG
noncomputable def m_Matches_findNearest_25 (N : Nat) (mt_from : Int32) (mt_to : Int32) (i_f : Nat → Int32) (mt_bef : Nat → Int32) (rec25 : Int32 → Int32 → Int32 → Int32 → Int32 → Int32 → Option (Int32 × Int32)) (x1 : Int32) (x2 : Int32) (x3 : Int32) (x4 : Int32) (mt_len : Int32) (mt_dist : Int32) : Option (Int32 × Int32) :=
  if (10000 : Int32) ≤ x4 then
    some (mt_len, mt_dist)
  else
    if x3 < mt_from then
      some (mt_len, mt_dist)
    else
      tp_b1 (m_Matches_alike N x3 x1 (x1 + x2) i_f) fun r6 =>
      if r6 = x2 then
        tp_b1 (m_Matches_alike N x3 x1 mt_to i_f) fun r11 =>
        some (r11, (x1 - x3))
      else
        tp_b1 (m_Matches_earlier x3 mt_to mt_bef) fun r9 =>
        rec25 x1 x2 r9 (x4 + (1 : Int32)) mt_len mt_dist
noncomputable def m_Matches_findNearest (N : Nat) (x1 : Int32) (x2 : Int32) (mt_from : Int32) (mt_to : Int32) (mt_len : Int32) (mt_dist : Int32) (i_f : Nat → Int32) (mt_bef : Nat → Int32) : Option (Int32 × Int32) :=
  if (x1 + x2) ≤ mt_to then
    tp_b1 (m_Matches_earlier x1 mt_to mt_bef) fun r2 =>
    tp_it6 (m_Matches_findNearest_25 N mt_from mt_to i_f mt_bef ) N x1 x2 r2 (0 : Int32) (0 : Int32) mt_dist
  else
    some ((0 : Int32), mt_dist)
section
variable {p : Program} {l : Launch} {e : Env} {s : State} {m : MethodId} {args : Array Value} {below : List Frame} {meth : Method} {c : Code} {A : Nat → Prop} {D : va_G} {cB cI : ClassId} {tM : Nat}
set_option maxHeartbeats 4000000 in
set_option maxRecDepth 100000 in
theorem w_Matches_findNearest_25 {q_mt q_i q_iB q_mtb q_mtl : Nat} {mt_from : Int32} {mt_to : Int32} {i_c : Int32} {i_f : Nat → Int32} {mt_bef : Nat → Int32} {mt_lat : Nat → Int32} {N : Nat} {mt_len' : Int32} {mt_dist' : Int32} (hF2 : tp_F p m c c_Matches_findNearest 5 s args tpG R_Matches meth none) : ∀ (n : Nat), ∀ (x1 : Int32) (x2 : Int32) (x3 : Int32) (x4 : Int32) (mt_len : Int32) (mt_dist : Int32) (H : Heap) (locs : List Loc) (ls : Array Slot), tp_it6 (m_Matches_findNearest_25 N mt_from mt_to i_f mt_bef ) n x1 x2 x3 x4 mt_len mt_dist = some (mt_len', mt_dist') → tp_Wd D (tp_ty cB cI) tM A s H locs [(q_mt, .inr (2, [.ref q_i, .ref q_mtb, .ref q_mtl, .int mt_from, .int mt_to, .int mt_len, .int mt_dist])), (q_i, .inr (3, [.ref q_iB, .int i_c])), (q_iB, .inl (cB, 10000, .inl i_f)), (q_mtb, .inl (cI, 10000, .inl mt_bef)), (q_mtl, .inl (cI, 2048, .inl mt_lat))] → lv_has ls 5 [(0, .ref q_mt), (1, .int x1), (2, .int x2), (3, .int x3), (4, .int x4)] → W p l e rm_Matches_findNearest s m args below meth c H locs 0 0 (MQ below (tp_Qv (S := Unit) D A (fun _ => [(q_mt, .inr (2, [.ref q_i, .ref q_mtb, .ref q_mtl, .int mt_from, .int mt_to, .int mt_len', .int mt_dist'])), (q_i, .inr (3, [.ref q_iB, .int i_c])), (q_iB, .inl (cB, 10000, .inl i_f)), (q_mtb, .inl (cI, 10000, .inl mt_bef)), (q_mtl, .inl (cI, 2048, .inl mt_lat))])) args s 0 0 A) (F0 m 25 ls []) := by
  obtain ⟨hF, hr, hlocks⟩ := id hF2
  obtain ⟨hx, hb, hml, hown, hts⟩ := id hF
  intro n
  induction n with
  | zero => intro x1 x2 x3 x4 mt_len mt_dist H locs ls hm; exact absurd hm (by simp [tp_it6])
  | succ n ih25 =>
    intro x1 x2 x3 x4 mt_len mt_dist H locs ls hm hw hl
    replace hm : m_Matches_findNearest_25 N mt_from mt_to i_f mt_bef  (tp_it6 (m_Matches_findNearest_25 N mt_from mt_to i_f mt_bef ) n) x1 x2 x3 x4 mt_len mt_dist = some (mt_len', mt_dist') := hm
    unfold m_Matches_findNearest_25 at hm
    refine lv_iload hx hb d_Matches_findNearest_25 (lv_at hl 4 rfl) ?_
    refine lv_sipush (v := (10000 : Int32)) hx hb d_Matches_findNearest_27 (by decide +kernel) ?_
    refine lv_icmp_ge (tgt := 88) hx hb d_Matches_findNearest_30 (by decide +kernel) (fun hc4 => ?_) (fun hc4 => ?_)
    · replace hm := tp_it hc4 hm
      obtain ⟨rfl, rfl⟩ := tp_inj2 hm
      exact tp_vret () hx hb hr hlocks hw d_Matches_findNearest_88
    · replace hm := tp_if hc4 hm
      refine lv_iload_n hx hb d_Matches_findNearest_33 rfl (lv_at hl 3 rfl) ?_
      refine lv_aload_n hx hb d_Matches_findNearest_34 rfl (lv_at hl 0 rfl) ?_
      refine tp_get (v := .int mt_from) (C := R_Matches) (T := T_Matches) hx hb hts fw_Matches hown hw 0 rfl rfl 3 (by decide +kernel) (hts _ wd_51) rfl d_Matches_findNearest_35 ?_
      refine lv_icmp_lt (tgt := 88) hx hb d_Matches_findNearest_38 (by decide +kernel) (fun hc5 => ?_) (fun hc5 => ?_)
      · replace hm := tp_it hc5 hm
        obtain ⟨rfl, rfl⟩ := tp_inj2 hm
        exact tp_vret () hx hb hr hlocks hw d_Matches_findNearest_88
      · replace hm := tp_if hc5 hm
        refine lv_aload_n hx hb d_Matches_findNearest_41 rfl (lv_at hl 0 rfl) ?_
        refine lv_iload_n hx hb d_Matches_findNearest_42 rfl (lv_at hl 3 rfl) ?_
        refine lv_iload_n hx hb d_Matches_findNearest_43 rfl (lv_at hl 1 rfl) ?_
        refine lv_iload_n hx hb d_Matches_findNearest_44 rfl (lv_at hl 1 rfl) ?_
        refine lv_iload_n hx hb d_Matches_findNearest_45 rfl (lv_at hl 2 rfl) ?_
        refine lv_iadd hx hb d_Matches_findNearest_46 ?_
        obtain ⟨r6, hm7, hm⟩ := tp_b1_e hm
        refine tp_calli (wr := []) (WS' := [(q_mt, .inr (2, [.ref q_i, .ref q_mtb, .ref q_mtl, .int mt_from, .int mt_to, .int mt_len, .int mt_dist])), (q_i, .inr (3, [.ref q_iB, .int i_c])), (q_iB, .inl (cB, 10000, .inl i_f)), (q_mtb, .inl (cI, 10000, .inl mt_bef)), (q_mtl, .inl (cI, 2048, .inl mt_lat))]) (va_runV (As := [.int x3, .int x1, .int (x1 + x2)]) (rest := []) hF (ct_Matches_alike (l := l) (D := D) (cB := cB) (cI := cI) (tM := tM) (q_mt := q_mt) (q_i := q_i) (q_iB := q_iB) (q_mtb := q_mtb) (q_mtl := q_mtl) (mt_from := mt_from) (mt_to := mt_to) (mt_len := mt_len) (mt_dist := mt_dist) (i_c := i_c) (i_f := i_f) (mt_bef := mt_bef) (mt_lat := mt_lat) (x1 := x3) (x2 := x1) (x3 := (x1 + x2)) (N := N) (r := r6) hm7 _) (cwV 3 hts (tpG_V wd_62 wd_63 wd_64 wd_42 wd_61) rfl rfl rfl ⟨rfl, yd_Matches_alike⟩ ⟨Nat.le_of_ble_eq_true rfl, Nat.le_of_ble_eq_true rfl⟩) ⟨tp_blind, va_recv hw.1 hw.2.1 (ci := 2) (q0 := 0) rfl rfl, tp_pre hw [0, 1, 2, 3, 4] rfl rfl⟩ rfl rfl hl.1 rfl (lv_room (Nat.le_of_ble_eq_true rfl)) d_Matches_findNearest_47 ⟨Nat.le_of_ble_eq_true rfl, Nat.le_of_ble_eq_true rfl⟩) hw [0, 1, 2, 3, 4] [] [0, 1, 2, 3, 4] rfl rfl rfl (by decide) rfl rfl (fun H locs hw => ?_)
        refine lv_iload_n hx hb d_Matches_findNearest_50 rfl (lv_at hl 2 rfl) ?_
        refine lv_icmp_ne (tgt := 76) hx hb d_Matches_findNearest_51 (by decide +kernel) (fun hc8 => ?_) (fun hc8 => ?_)
        · replace hm := tp_if hc8 hm
          refine lv_aload_n hx hb d_Matches_findNearest_76 rfl (lv_at hl 0 rfl) ?_
          refine lv_iload_n hx hb d_Matches_findNearest_77 rfl (lv_at hl 3 rfl) ?_
          obtain ⟨r9, hm10, hm⟩ := tp_b1_e hm
          refine tp_calli (wr := []) (WS' := [(q_mt, .inr (2, [.ref q_i, .ref q_mtb, .ref q_mtl, .int mt_from, .int mt_to, .int mt_len, .int mt_dist])), (q_i, .inr (3, [.ref q_iB, .int i_c])), (q_iB, .inl (cB, 10000, .inl i_f)), (q_mtb, .inl (cI, 10000, .inl mt_bef)), (q_mtl, .inl (cI, 2048, .inl mt_lat))]) (va_runV (As := [.int x3]) (rest := []) hF (ct_Matches_earlier (l := l) (D := D) (cB := cB) (cI := cI) (tM := tM) (q_mt := q_mt) (q_i := q_i) (q_iB := q_iB) (q_mtb := q_mtb) (q_mtl := q_mtl) (mt_from := mt_from) (mt_to := mt_to) (mt_len := mt_len) (mt_dist := mt_dist) (i_c := i_c) (i_f := i_f) (mt_bef := mt_bef) (mt_lat := mt_lat) (x1 := x3) (r := r9) hm10 _) (cwV 1 hts (tpG_V wd_58 wd_59 wd_60 wd_42 wd_57) rfl rfl rfl ⟨rfl, yd_Matches_earlier⟩ ⟨Nat.le_of_ble_eq_true rfl, Nat.le_of_ble_eq_true rfl⟩) ⟨tp_blind, va_recv hw.1 hw.2.1 (ci := 2) (q0 := 0) rfl rfl, tp_pre hw [0, 1, 2, 3, 4] rfl rfl⟩ rfl rfl hl.1 rfl (lv_room (Nat.le_of_ble_eq_true rfl)) d_Matches_findNearest_78 ⟨Nat.le_of_ble_eq_true rfl, Nat.le_of_ble_eq_true rfl⟩) hw [0, 1, 2, 3, 4] [] [0, 1, 2, 3, 4] rfl rfl rfl (by decide) rfl rfl (fun H locs hw => ?_)
          refine lv_istore_n (lv' := [(3, .int r9), (0, .ref q_mt), (1, .int x1), (2, .int x2), (4, .int x4)]) hx hb d_Matches_findNearest_81 rfl hl (by decide +kernel) rfl (fun ls hl => ?_)
          refine lv_iinc (v := (x4 + (1 : Int32))) (lv' := [(4, .int (x4 + (1 : Int32))), (3, .int r9), (0, .ref q_mt), (1, .int x1), (2, .int x2)]) hx hb d_Matches_findNearest_82 hl (k := 4) rfl rfl (by decide +kernel) rfl (fun ls hl => ?_)
          refine lv_goto (tgt := 25) hx hb d_Matches_findNearest_85 (by decide +kernel) ?_
          exact ih25 _ _ _ _ _ _ _ _ _ hm hw (lv_sub hl [2, 3, 4, 1, 0] rfl)
        · replace hm := tp_it hc8 hm
          refine lv_aload_n hx hb d_Matches_findNearest_54 rfl (lv_at hl 0 rfl) ?_
          refine lv_aload_n hx hb d_Matches_findNearest_55 rfl (lv_at hl 0 rfl) ?_
          refine lv_iload_n hx hb d_Matches_findNearest_56 rfl (lv_at hl 3 rfl) ?_
          refine lv_iload_n hx hb d_Matches_findNearest_57 rfl (lv_at hl 1 rfl) ?_
          refine lv_aload_n hx hb d_Matches_findNearest_58 rfl (lv_at hl 0 rfl) ?_
          refine tp_get (v := .int mt_to) (C := R_Matches) (T := T_Matches) hx hb hts fw_Matches hown hw 0 rfl rfl 4 (by decide +kernel) (hts _ wd_55) rfl d_Matches_findNearest_59 ?_
          obtain ⟨r11, hm12, hm⟩ := tp_b1_e hm
          refine tp_calli (wr := []) (WS' := [(q_mt, .inr (2, [.ref q_i, .ref q_mtb, .ref q_mtl, .int mt_from, .int mt_to, .int mt_len, .int mt_dist])), (q_i, .inr (3, [.ref q_iB, .int i_c])), (q_iB, .inl (cB, 10000, .inl i_f)), (q_mtb, .inl (cI, 10000, .inl mt_bef)), (q_mtl, .inl (cI, 2048, .inl mt_lat))]) (va_runV (As := [.int x3, .int x1, .int mt_to]) (rest := [.ref q_mt]) hF (ct_Matches_alike (l := l) (D := D) (cB := cB) (cI := cI) (tM := tM) (q_mt := q_mt) (q_i := q_i) (q_iB := q_iB) (q_mtb := q_mtb) (q_mtl := q_mtl) (mt_from := mt_from) (mt_to := mt_to) (mt_len := mt_len) (mt_dist := mt_dist) (i_c := i_c) (i_f := i_f) (mt_bef := mt_bef) (mt_lat := mt_lat) (x1 := x3) (x2 := x1) (x3 := mt_to) (N := N) (r := r11) hm12 _) (cwV 3 hts (tpG_V wd_62 wd_63 wd_64 wd_42 wd_61) rfl rfl rfl ⟨rfl, yd_Matches_alike⟩ ⟨Nat.le_of_ble_eq_true rfl, Nat.le_of_ble_eq_true rfl⟩) ⟨tp_blind, va_recv hw.1 hw.2.1 (ci := 2) (q0 := 0) rfl rfl, tp_pre hw [0, 1, 2, 3, 4] rfl rfl⟩ rfl rfl hl.1 rfl (lv_room (Nat.le_of_ble_eq_true rfl)) d_Matches_findNearest_62 ⟨Nat.le_of_ble_eq_true rfl, Nat.le_of_ble_eq_true rfl⟩) hw [0, 1, 2, 3, 4] [] [0, 1, 2, 3, 4] rfl rfl rfl (by decide) rfl rfl (fun H locs hw => ?_)
          refine tp_put (v := .int r11) (C := R_Matches) (T := T_Matches) (WS' := [(q_mt, .inr (2, [.ref q_i, .ref q_mtb, .ref q_mtl, .int mt_from, .int mt_to, .int r11, .int mt_dist])), (q_i, .inr (3, [.ref q_iB, .int i_c])), (q_iB, .inl (cB, 10000, .inl i_f)), (q_mtb, .inl (cI, 10000, .inl mt_bef)), (q_mtl, .inl (cI, 2048, .inl mt_lat))]) hx hb hts fw_Matches ty_Matches ty_Matches_ok nm_Matches hown hw 0 rfl rfl 5 (by decide +kernel) (hts _ wd_56) rfl rfl rfl (Nat.le_of_ble_eq_true rfl) rfl d_Matches_findNearest_65 (fun H locs hw => ?_)
          refine lv_aload_n hx hb d_Matches_findNearest_68 rfl (lv_at hl 0 rfl) ?_
          refine lv_iload_n hx hb d_Matches_findNearest_69 rfl (lv_at hl 1 rfl) ?_
          refine lv_iload_n hx hb d_Matches_findNearest_70 rfl (lv_at hl 3 rfl) ?_
          refine lv_isub hx hb d_Matches_findNearest_71 ?_
          refine tp_put (v := .int (x1 - x3)) (C := R_Matches) (T := T_Matches) (WS' := [(q_mt, .inr (2, [.ref q_i, .ref q_mtb, .ref q_mtl, .int mt_from, .int mt_to, .int r11, .int (x1 - x3)])), (q_i, .inr (3, [.ref q_iB, .int i_c])), (q_iB, .inl (cB, 10000, .inl i_f)), (q_mtb, .inl (cI, 10000, .inl mt_bef)), (q_mtl, .inl (cI, 2048, .inl mt_lat))]) hx hb hts fw_Matches ty_Matches ty_Matches_ok nm_Matches hown hw 0 rfl rfl 6 (by decide +kernel) (hts _ wd_65) rfl rfl rfl (Nat.le_of_ble_eq_true rfl) rfl d_Matches_findNearest_72 (fun H locs hw => ?_)
          obtain ⟨rfl, rfl⟩ := tp_inj2 hm
          exact tp_vret () hx hb hr hlocks hw d_Matches_findNearest_75
set_option maxHeartbeats 4000000 in
set_option maxRecDepth 100000 in
theorem ct_Matches_findNearest {q_mt q_i q_iB q_mtb q_mtl : Nat} {mt_from : Int32} {mt_to : Int32} {mt_len : Int32} {mt_dist : Int32} {i_c : Int32} {i_f : Nat → Int32} {mt_bef : Nat → Int32} {mt_lat : Nat → Int32} {N : Nat} {x1 : Int32} {x2 : Int32} {mt_len' : Int32} {mt_dist' : Int32} (hm : m_Matches_findNearest N x1 x2 mt_from mt_to mt_len mt_dist i_f mt_bef = some (mt_len', mt_dist')) (sz : Nat) : tp_Cv l y_Matches_findNearest ws_Matches_findNearest rm_Matches_findNearest D (tp_ty cB cI) tM [.ref q_mt, .int x1, .int x2] [(q_mt, .inr (2, [.ref q_i, .ref q_mtb, .ref q_mtl, .int mt_from, .int mt_to, .int mt_len, .int mt_dist])), (q_i, .inr (3, [.ref q_iB, .int i_c])), (q_iB, .inl (cB, 10000, .inl i_f)), (q_mtb, .inl (cI, 10000, .inl mt_bef)), (q_mtl, .inl (cI, 2048, .inl mt_lat))] sz [(q_mt, .inr (2, [.ref q_i, .ref q_mtb, .ref q_mtl, .int mt_from, .int mt_to, .int mt_len', .int mt_dist'])), (q_i, .inr (3, [.ref q_iB, .int i_c])), (q_iB, .inl (cB, 10000, .inl i_f)), (q_mtb, .inl (cI, 10000, .inl mt_bef)), (q_mtl, .inl (cI, 2048, .inl mt_lat))] := by
  refine Met.ofW (cc := c_Matches_findNearest) (maxL := 5) (ret := none) (by decide) rfl ?_
  intro p e s m args below meth c s₁ B hml hv
  obtain ⟨rfl, hv⟩ := hv
  have hw := tp_entry hv
  generalize va_A [(q_mt, .inr (2, [.ref q_i, .ref q_mtb, .ref q_mtl, .int mt_from, .int mt_to, .int mt_len, .int mt_dist])), (q_i, .inr (3, [.ref q_iB, .int i_c])), (q_iB, .inl (cB, 10000, .inl i_f)), (q_mtb, .inl (cI, 10000, .inl mt_bef)), (q_mtl, .inl (cI, 2048, .inl mt_lat))] sz = A at hw ⊢
  have hx := B.exec
  have hb := B.bytes
  have hr := B.returns
  have hts0 := atoms_spec (ws := ws_Matches_findNearest) B.pre
  have hts := fun w h => hts0 w (List.mem_cons_of_mem _ h)
  have hown : s.vm.findClass R_Matches = some m.cls := findClass_of_methodNamed B.named
  have hlocks := B.notSynchronized
  have hF : CallFix p m c c_Matches_findNearest 5 s _ tpG R_Matches := ⟨hx, hb, hml, hown, hts⟩
  have hF2 : tp_F p m c c_Matches_findNearest 5 s _ tpG R_Matches meth none := ⟨hF, hr, hlocks⟩
  have hl := lv_entry ([.ref q_mt, .int x1, .int x2]) (n := 5) (Nat.le_of_ble_eq_true rfl)
  rw [lg_entry_eq]
  generalize (lg_sl ([.ref q_mt, .int x1, .int x2]) ++ List.replicate (5 - (lg_sl ([.ref q_mt, .int x1, .int x2])).length) Slot.unset).toArray = ls at hl ⊢
  replace hl : lv_has ls 5 [(0, .ref q_mt), (1, .int x1), (2, .int x2)] := hl
  unfold m_Matches_findNearest at hm
  refine lv_aload_n hx hb d_Matches_findNearest_0 rfl (lv_at hl 0 rfl) ?_
  refine lv_iconst (v := (0 : Int32)) hx hb d_Matches_findNearest_1 (by decide +kernel) ?_
  refine tp_put (v := .int (0 : Int32)) (C := R_Matches) (T := T_Matches) (WS' := [(q_mt, .inr (2, [.ref q_i, .ref q_mtb, .ref q_mtl, .int mt_from, .int mt_to, .int (0 : Int32), .int mt_dist])), (q_i, .inr (3, [.ref q_iB, .int i_c])), (q_iB, .inl (cB, 10000, .inl i_f)), (q_mtb, .inl (cI, 10000, .inl mt_bef)), (q_mtl, .inl (cI, 2048, .inl mt_lat))]) hx hb hts fw_Matches ty_Matches ty_Matches_ok nm_Matches hown hw 0 rfl rfl 5 (by decide +kernel) (hts _ wd_56) rfl rfl rfl (Nat.le_of_ble_eq_true rfl) rfl d_Matches_findNearest_2 (fun H locs hw => ?_)
  refine lv_iload_n hx hb d_Matches_findNearest_5 rfl (lv_at hl 1 rfl) ?_
  refine lv_iload_n hx hb d_Matches_findNearest_6 rfl (lv_at hl 2 rfl) ?_
  refine lv_iadd hx hb d_Matches_findNearest_7 ?_
  refine lv_aload_n hx hb d_Matches_findNearest_8 rfl (lv_at hl 0 rfl) ?_
  refine tp_get (v := .int mt_to) (C := R_Matches) (T := T_Matches) hx hb hts fw_Matches hown hw 0 rfl rfl 4 (by decide +kernel) (hts _ wd_55) rfl d_Matches_findNearest_9 ?_
  refine lv_icmp_le (tgt := 16) hx hb d_Matches_findNearest_12 (by decide +kernel) (fun hc1 => ?_) (fun hc1 => ?_)
  · replace hm := tp_it hc1 hm
    refine lv_aload_n hx hb d_Matches_findNearest_16 rfl (lv_at hl 0 rfl) ?_
    refine lv_iload_n hx hb d_Matches_findNearest_17 rfl (lv_at hl 1 rfl) ?_
    obtain ⟨r2, hm3, hm⟩ := tp_b1_e hm
    refine tp_calli (wr := []) (WS' := [(q_mt, .inr (2, [.ref q_i, .ref q_mtb, .ref q_mtl, .int mt_from, .int mt_to, .int (0 : Int32), .int mt_dist])), (q_i, .inr (3, [.ref q_iB, .int i_c])), (q_iB, .inl (cB, 10000, .inl i_f)), (q_mtb, .inl (cI, 10000, .inl mt_bef)), (q_mtl, .inl (cI, 2048, .inl mt_lat))]) (va_runV (As := [.int x1]) (rest := []) hF (ct_Matches_earlier (l := l) (D := D) (cB := cB) (cI := cI) (tM := tM) (q_mt := q_mt) (q_i := q_i) (q_iB := q_iB) (q_mtb := q_mtb) (q_mtl := q_mtl) (mt_from := mt_from) (mt_to := mt_to) (mt_len := (0 : Int32)) (mt_dist := mt_dist) (i_c := i_c) (i_f := i_f) (mt_bef := mt_bef) (mt_lat := mt_lat) (x1 := x1) (r := r2) hm3 _) (cwV 1 hts (tpG_V wd_58 wd_59 wd_60 wd_42 wd_57) rfl rfl rfl ⟨rfl, yd_Matches_earlier⟩ ⟨Nat.le_of_ble_eq_true rfl, Nat.le_of_ble_eq_true rfl⟩) ⟨tp_blind, va_recv hw.1 hw.2.1 (ci := 2) (q0 := 0) rfl rfl, tp_pre hw [0, 1, 2, 3, 4] rfl rfl⟩ rfl rfl hl.1 rfl (lv_room (Nat.le_of_ble_eq_true rfl)) d_Matches_findNearest_18 ⟨Nat.le_of_ble_eq_true rfl, Nat.le_of_ble_eq_true rfl⟩) hw [0, 1, 2, 3, 4] [] [0, 1, 2, 3, 4] rfl rfl rfl (by decide) rfl rfl (fun H locs hw => ?_)
    refine lv_istore_n (lv' := [(3, .int r2), (0, .ref q_mt), (1, .int x1), (2, .int x2)]) hx hb d_Matches_findNearest_21 rfl hl (by decide +kernel) rfl (fun ls hl => ?_)
    refine lv_iconst (v := (0 : Int32)) hx hb d_Matches_findNearest_22 (by decide +kernel) ?_
    refine lv_istore (lv' := [(4, .int (0 : Int32)), (3, .int r2), (0, .ref q_mt), (1, .int x1), (2, .int x2)]) hx hb d_Matches_findNearest_23 hl (by decide +kernel) rfl (fun ls hl => ?_)
    exact w_Matches_findNearest_25 hF2  N _ _ _ _ _ _ _ _ _ hm hw (lv_sub hl [2, 3, 4, 1, 0] rfl)
  · replace hm := tp_if hc1 hm
    obtain ⟨rfl, rfl⟩ := tp_inj2 hm
    exact tp_vret () hx hb hr hlocks hw d_Matches_findNearest_15
end
abbrev rm_Matches_findLongest : Room := { frames := 1, cells := 0, slots := 0, locals := 24 }
abbrev ws_Matches_findLongest : List Cond := .code y_Matches_findLongest c_Matches_findLongest 5 none :: tpG
noncomputable def m_Matches_findLongest_13 (N : Nat) (mt_from : Int32) (mt_to : Int32) (i_c : Int32) (i_f : Nat → Int32) (mt_bef : Nat → Int32) (rec13 : Int32 → Int32 → Int32 → Int32 → Int32 → Option (Int32 × Int32)) (x1 : Int32) (x2 : Int32) (x3 : Int32) (mt_len : Int32) (mt_dist : Int32) : Option (Int32 × Int32) :=
  if (10000 : Int32) ≤ x3 then
    some (mt_len, mt_dist)
  else
    if x2 < mt_from then
      some (mt_len, mt_dist)
    else
      if mt_to ≤ (x1 + mt_len) then
        some (mt_len, mt_dist)
      else
        tp_b1 (m_Row_at (x2 + mt_len) i_c i_f) fun r6 =>
        tp_b1 (m_Row_at (x1 + mt_len) i_c i_f) fun r8 =>
        if r6 = r8 then
          tp_b1 (m_Matches_alike N x2 x1 mt_to i_f) fun r13 =>
          if r13 < (4 : Int32) then
            tp_b1 (m_Matches_earlier x2 mt_to mt_bef) fun r16 =>
            rec13 x1 r16 (x3 + (1 : Int32)) mt_len mt_dist
          else
            if r13 ≤ mt_len then
              tp_b1 (m_Matches_earlier x2 mt_to mt_bef) fun r19 =>
              rec13 x1 r19 (x3 + (1 : Int32)) mt_len mt_dist
            else
              tp_b1 (m_Matches_earlier x2 mt_to mt_bef) fun r21 =>
              rec13 x1 r21 (x3 + (1 : Int32)) r13 (x1 - x2)
        else
          tp_b1 (m_Matches_earlier x2 mt_to mt_bef) fun r11 =>
          rec13 x1 r11 (x3 + (1 : Int32)) mt_len mt_dist
noncomputable def m_Matches_findLongest (N : Nat) (x1 : Int32) (mt_from : Int32) (mt_to : Int32) (mt_len : Int32) (mt_dist : Int32) (i_c : Int32) (i_f : Nat → Int32) (mt_bef : Nat → Int32) : Option (Int32 × Int32) :=
  tp_b1 (m_Matches_earlier x1 mt_to mt_bef) fun r1 =>
  tp_it5 (m_Matches_findLongest_13 N mt_from mt_to i_c i_f mt_bef ) N x1 r1 (0 : Int32) (0 : Int32) mt_dist
section
variable {p : Program} {l : Launch} {e : Env} {s : State} {m : MethodId} {args : Array Value} {below : List Frame} {meth : Method} {c : Code} {A : Nat → Prop} {D : va_G} {cB cI : ClassId} {tM : Nat}
set_option maxHeartbeats 4000000 in
set_option maxRecDepth 100000 in
theorem w_Matches_findLongest_13 {q_mt q_i q_iB q_mtb q_mtl : Nat} {mt_from : Int32} {mt_to : Int32} {i_c : Int32} {i_f : Nat → Int32} {mt_bef : Nat → Int32} {mt_lat : Nat → Int32} {N : Nat} {mt_len' : Int32} {mt_dist' : Int32} (hF2 : tp_F p m c c_Matches_findLongest 5 s args tpG R_Matches meth none) : ∀ (n : Nat), ∀ (x1 : Int32) (x2 : Int32) (x3 : Int32) (mt_len : Int32) (mt_dist : Int32) (H : Heap) (locs : List Loc) (ls : Array Slot), tp_it5 (m_Matches_findLongest_13 N mt_from mt_to i_c i_f mt_bef ) n x1 x2 x3 mt_len mt_dist = some (mt_len', mt_dist') → tp_Wd D (tp_ty cB cI) tM A s H locs [(q_mt, .inr (2, [.ref q_i, .ref q_mtb, .ref q_mtl, .int mt_from, .int mt_to, .int mt_len, .int mt_dist])), (q_i, .inr (3, [.ref q_iB, .int i_c])), (q_iB, .inl (cB, 10000, .inl i_f)), (q_mtb, .inl (cI, 10000, .inl mt_bef)), (q_mtl, .inl (cI, 2048, .inl mt_lat))] → lv_has ls 5 [(0, .ref q_mt), (1, .int x1), (2, .int x2), (3, .int x3)] → W p l e rm_Matches_findLongest s m args below meth c H locs 0 0 (MQ below (tp_Qv (S := Unit) D A (fun _ => [(q_mt, .inr (2, [.ref q_i, .ref q_mtb, .ref q_mtl, .int mt_from, .int mt_to, .int mt_len', .int mt_dist'])), (q_i, .inr (3, [.ref q_iB, .int i_c])), (q_iB, .inl (cB, 10000, .inl i_f)), (q_mtb, .inl (cI, 10000, .inl mt_bef)), (q_mtl, .inl (cI, 2048, .inl mt_lat))])) args s 0 0 A) (F0 m 13 ls []) := by
  obtain ⟨hF, hr, hlocks⟩ := id hF2
  obtain ⟨hx, hb, hml, hown, hts⟩ := id hF
  intro n
  induction n with
  | zero => intro x1 x2 x3 mt_len mt_dist H locs ls hm; exact absurd hm (by simp [tp_it5])
  | succ n ih13 =>
    intro x1 x2 x3 mt_len mt_dist H locs ls hm hw hl
    replace hm : m_Matches_findLongest_13 N mt_from mt_to i_c i_f mt_bef  (tp_it5 (m_Matches_findLongest_13 N mt_from mt_to i_c i_f mt_bef ) n) x1 x2 x3 mt_len mt_dist = some (mt_len', mt_dist') := hm
    unfold m_Matches_findLongest_13 at hm
    refine lv_iload_n hx hb d_Matches_findLongest_13 rfl (lv_at hl 3 rfl) ?_
    refine lv_sipush (v := (10000 : Int32)) hx hb d_Matches_findLongest_14 (by decide +kernel) ?_
    refine lv_icmp_ge (tgt := 122) hx hb d_Matches_findLongest_17 (by decide +kernel) (fun hc3 => ?_) (fun hc3 => ?_)
    · replace hm := tp_it hc3 hm
      obtain ⟨rfl, rfl⟩ := tp_inj2 hm
      exact tp_vret () hx hb hr hlocks hw d_Matches_findLongest_122
    · replace hm := tp_if hc3 hm
      refine lv_iload_n hx hb d_Matches_findLongest_20 rfl (lv_at hl 2 rfl) ?_
      refine lv_aload_n hx hb d_Matches_findLongest_21 rfl (lv_at hl 0 rfl) ?_
      refine tp_get (v := .int mt_from) (C := R_Matches) (T := T_Matches) hx hb hts fw_Matches hown hw 0 rfl rfl 3 (by decide +kernel) (hts _ wd_51) rfl d_Matches_findLongest_22 ?_
      refine lv_icmp_lt (tgt := 122) hx hb d_Matches_findLongest_25 (by decide +kernel) (fun hc4 => ?_) (fun hc4 => ?_)
      · replace hm := tp_it hc4 hm
        obtain ⟨rfl, rfl⟩ := tp_inj2 hm
        exact tp_vret () hx hb hr hlocks hw d_Matches_findLongest_122
      · replace hm := tp_if hc4 hm
        refine lv_iload_n hx hb d_Matches_findLongest_28 rfl (lv_at hl 1 rfl) ?_
        refine lv_aload_n hx hb d_Matches_findLongest_29 rfl (lv_at hl 0 rfl) ?_
        refine tp_get (v := .int mt_len) (C := R_Matches) (T := T_Matches) hx hb hts fw_Matches hown hw 0 rfl rfl 5 (by decide +kernel) (hts _ wd_56) rfl d_Matches_findLongest_30 ?_
        refine lv_iadd hx hb d_Matches_findLongest_33 ?_
        refine lv_aload_n hx hb d_Matches_findLongest_34 rfl (lv_at hl 0 rfl) ?_
        refine tp_get (v := .int mt_to) (C := R_Matches) (T := T_Matches) hx hb hts fw_Matches hown hw 0 rfl rfl 4 (by decide +kernel) (hts _ wd_55) rfl d_Matches_findLongest_35 ?_
        refine lv_icmp_ge (tgt := 122) hx hb d_Matches_findLongest_38 (by decide +kernel) (fun hc5 => ?_) (fun hc5 => ?_)
        · replace hm := tp_it hc5 hm
          obtain ⟨rfl, rfl⟩ := tp_inj2 hm
          exact tp_vret () hx hb hr hlocks hw d_Matches_findLongest_122
        · replace hm := tp_if hc5 hm
          refine lv_aload_n hx hb d_Matches_findLongest_41 rfl (lv_at hl 0 rfl) ?_
          refine tp_get (v := .ref q_i) (C := R_Matches) (T := T_Matches) hx hb hts fw_Matches hown hw 0 rfl rfl 0 (by decide +kernel) (hts _ wd_30) rfl d_Matches_findLongest_42 ?_
          refine lv_iload_n hx hb d_Matches_findLongest_45 rfl (lv_at hl 2 rfl) ?_
          refine lv_aload_n hx hb d_Matches_findLongest_46 rfl (lv_at hl 0 rfl) ?_
          refine tp_get (v := .int mt_len) (C := R_Matches) (T := T_Matches) hx hb hts fw_Matches hown hw 0 rfl rfl 5 (by decide +kernel) (hts _ wd_56) rfl d_Matches_findLongest_47 ?_
          refine lv_iadd hx hb d_Matches_findLongest_50 ?_
          obtain ⟨r6, hm7, hm⟩ := tp_b1_e hm
          refine tp_calli (wr := [(q_mt, .inr (2, [.ref q_i, .ref q_mtb, .ref q_mtl, .int mt_from, .int mt_to, .int mt_len, .int mt_dist])), (q_mtb, .inl (cI, 10000, .inl mt_bef)), (q_mtl, .inl (cI, 2048, .inl mt_lat))]) (WS' := [(q_mt, .inr (2, [.ref q_i, .ref q_mtb, .ref q_mtl, .int mt_from, .int mt_to, .int mt_len, .int mt_dist])), (q_i, .inr (3, [.ref q_iB, .int i_c])), (q_iB, .inl (cB, 10000, .inl i_f)), (q_mtb, .inl (cI, 10000, .inl mt_bef)), (q_mtl, .inl (cI, 2048, .inl mt_lat))]) (va_runV (As := [.int (x2 + mt_len)]) (rest := []) hF (ct_Row_at (l := l) (D := D) (cB := cB) (cI := cI) (tM := tM) (q_a := q_i) (q_aB := q_iB) (a_c := i_c) (a_f := i_f) (x1 := (x2 + mt_len)) (r := r6) hm7 _) (cwV 1 hts (tpG_V wd_66 wd_13 wd_14 wd_3 wd_11) rfl rfl rfl ⟨rfl, yd_Row_at⟩ ⟨Nat.le_of_ble_eq_true rfl, Nat.le_of_ble_eq_true rfl⟩) ⟨tp_blind, va_recv hw.1 hw.2.1 (ci := 3) (q0 := 1) rfl rfl, tp_pre hw [1, 2] rfl rfl⟩ rfl rfl hl.1 rfl (lv_room (Nat.le_of_ble_eq_true rfl)) d_Matches_findLongest_51 ⟨Nat.le_of_ble_eq_true rfl, Nat.le_of_ble_eq_true rfl⟩) hw [1, 2] [0, 3, 4] [0, 3, 4, 1, 2] rfl rfl rfl (by decide) rfl rfl (fun H locs hw => ?_)
          refine lv_aload_n hx hb d_Matches_findLongest_54 rfl (lv_at hl 0 rfl) ?_
          refine tp_get (v := .ref q_i) (C := R_Matches) (T := T_Matches) hx hb hts fw_Matches hown hw 0 rfl rfl 0 (by decide +kernel) (hts _ wd_30) rfl d_Matches_findLongest_55 ?_
          refine lv_iload_n hx hb d_Matches_findLongest_58 rfl (lv_at hl 1 rfl) ?_
          refine lv_aload_n hx hb d_Matches_findLongest_59 rfl (lv_at hl 0 rfl) ?_
          refine tp_get (v := .int mt_len) (C := R_Matches) (T := T_Matches) hx hb hts fw_Matches hown hw 0 rfl rfl 5 (by decide +kernel) (hts _ wd_56) rfl d_Matches_findLongest_60 ?_
          refine lv_iadd hx hb d_Matches_findLongest_63 ?_
          obtain ⟨r8, hm9, hm⟩ := tp_b1_e hm
          refine tp_calli (wr := [(q_mt, .inr (2, [.ref q_i, .ref q_mtb, .ref q_mtl, .int mt_from, .int mt_to, .int mt_len, .int mt_dist])), (q_mtb, .inl (cI, 10000, .inl mt_bef)), (q_mtl, .inl (cI, 2048, .inl mt_lat))]) (WS' := [(q_mt, .inr (2, [.ref q_i, .ref q_mtb, .ref q_mtl, .int mt_from, .int mt_to, .int mt_len, .int mt_dist])), (q_i, .inr (3, [.ref q_iB, .int i_c])), (q_iB, .inl (cB, 10000, .inl i_f)), (q_mtb, .inl (cI, 10000, .inl mt_bef)), (q_mtl, .inl (cI, 2048, .inl mt_lat))]) (va_runV (As := [.int (x1 + mt_len)]) (rest := [.int r6]) hF (ct_Row_at (l := l) (D := D) (cB := cB) (cI := cI) (tM := tM) (q_a := q_i) (q_aB := q_iB) (a_c := i_c) (a_f := i_f) (x1 := (x1 + mt_len)) (r := r8) hm9 _) (cwV 1 hts (tpG_V wd_66 wd_13 wd_14 wd_3 wd_11) rfl rfl rfl ⟨rfl, yd_Row_at⟩ ⟨Nat.le_of_ble_eq_true rfl, Nat.le_of_ble_eq_true rfl⟩) ⟨tp_blind, va_recv hw.1 hw.2.1 (ci := 3) (q0 := 1) rfl rfl, tp_pre hw [1, 2] rfl rfl⟩ rfl rfl hl.1 rfl (lv_room (Nat.le_of_ble_eq_true rfl)) d_Matches_findLongest_64 ⟨Nat.le_of_ble_eq_true rfl, Nat.le_of_ble_eq_true rfl⟩) hw [1, 2] [0, 3, 4] [0, 3, 4, 1, 2] rfl rfl rfl (by decide) rfl rfl (fun H locs hw => ?_)
          refine lv_icmp_ne (tgt := 110) hx hb d_Matches_findLongest_67 (by decide +kernel) (fun hc10 => ?_) (fun hc10 => ?_)
          · replace hm := tp_if hc10 hm
            refine lv_aload_n hx hb d_Matches_findLongest_110 rfl (lv_at hl 0 rfl) ?_
            refine lv_iload_n hx hb d_Matches_findLongest_111 rfl (lv_at hl 2 rfl) ?_
            obtain ⟨r11, hm12, hm⟩ := tp_b1_e hm
            refine tp_calli (wr := []) (WS' := [(q_mt, .inr (2, [.ref q_i, .ref q_mtb, .ref q_mtl, .int mt_from, .int mt_to, .int mt_len, .int mt_dist])), (q_i, .inr (3, [.ref q_iB, .int i_c])), (q_iB, .inl (cB, 10000, .inl i_f)), (q_mtb, .inl (cI, 10000, .inl mt_bef)), (q_mtl, .inl (cI, 2048, .inl mt_lat))]) (va_runV (As := [.int x2]) (rest := []) hF (ct_Matches_earlier (l := l) (D := D) (cB := cB) (cI := cI) (tM := tM) (q_mt := q_mt) (q_i := q_i) (q_iB := q_iB) (q_mtb := q_mtb) (q_mtl := q_mtl) (mt_from := mt_from) (mt_to := mt_to) (mt_len := mt_len) (mt_dist := mt_dist) (i_c := i_c) (i_f := i_f) (mt_bef := mt_bef) (mt_lat := mt_lat) (x1 := x2) (r := r11) hm12 _) (cwV 1 hts (tpG_V wd_58 wd_59 wd_60 wd_42 wd_57) rfl rfl rfl ⟨rfl, yd_Matches_earlier⟩ ⟨Nat.le_of_ble_eq_true rfl, Nat.le_of_ble_eq_true rfl⟩) ⟨tp_blind, va_recv hw.1 hw.2.1 (ci := 2) (q0 := 0) rfl rfl, tp_pre hw [0, 1, 2, 3, 4] rfl rfl⟩ rfl rfl hl.1 rfl (lv_room (Nat.le_of_ble_eq_true rfl)) d_Matches_findLongest_112 ⟨Nat.le_of_ble_eq_true rfl, Nat.le_of_ble_eq_true rfl⟩) hw [0, 1, 2, 3, 4] [] [0, 1, 2, 3, 4] rfl rfl rfl (by decide) rfl rfl (fun H locs hw => ?_)
            refine lv_istore_n (lv' := [(2, .int r11), (0, .ref q_mt), (1, .int x1), (3, .int x3)]) hx hb d_Matches_findLongest_115 rfl hl (by decide +kernel) rfl (fun ls hl => ?_)
            refine lv_iinc (v := (x3 + (1 : Int32))) (lv' := [(3, .int (x3 + (1 : Int32))), (2, .int r11), (0, .ref q_mt), (1, .int x1)]) hx hb d_Matches_findLongest_116 hl (k := 3) rfl rfl (by decide +kernel) rfl (fun ls hl => ?_)
            refine lv_goto (tgt := 13) hx hb d_Matches_findLongest_119 (by decide +kernel) ?_
            exact ih13 _ _ _ _ _ _ _ _ hm hw (lv_sub hl [2, 3, 1, 0] rfl)
          · replace hm := tp_it hc10 hm
            refine lv_aload_n hx hb d_Matches_findLongest_70 rfl (lv_at hl 0 rfl) ?_
            refine lv_iload_n hx hb d_Matches_findLongest_71 rfl (lv_at hl 2 rfl) ?_
            refine lv_iload_n hx hb d_Matches_findLongest_72 rfl (lv_at hl 1 rfl) ?_
            refine lv_aload_n hx hb d_Matches_findLongest_73 rfl (lv_at hl 0 rfl) ?_
            refine tp_get (v := .int mt_to) (C := R_Matches) (T := T_Matches) hx hb hts fw_Matches hown hw 0 rfl rfl 4 (by decide +kernel) (hts _ wd_55) rfl d_Matches_findLongest_74 ?_
            obtain ⟨r13, hm14, hm⟩ := tp_b1_e hm
            refine tp_calli (wr := []) (WS' := [(q_mt, .inr (2, [.ref q_i, .ref q_mtb, .ref q_mtl, .int mt_from, .int mt_to, .int mt_len, .int mt_dist])), (q_i, .inr (3, [.ref q_iB, .int i_c])), (q_iB, .inl (cB, 10000, .inl i_f)), (q_mtb, .inl (cI, 10000, .inl mt_bef)), (q_mtl, .inl (cI, 2048, .inl mt_lat))]) (va_runV (As := [.int x2, .int x1, .int mt_to]) (rest := []) hF (ct_Matches_alike (l := l) (D := D) (cB := cB) (cI := cI) (tM := tM) (q_mt := q_mt) (q_i := q_i) (q_iB := q_iB) (q_mtb := q_mtb) (q_mtl := q_mtl) (mt_from := mt_from) (mt_to := mt_to) (mt_len := mt_len) (mt_dist := mt_dist) (i_c := i_c) (i_f := i_f) (mt_bef := mt_bef) (mt_lat := mt_lat) (x1 := x2) (x2 := x1) (x3 := mt_to) (N := N) (r := r13) hm14 _) (cwV 3 hts (tpG_V wd_62 wd_63 wd_64 wd_42 wd_61) rfl rfl rfl ⟨rfl, yd_Matches_alike⟩ ⟨Nat.le_of_ble_eq_true rfl, Nat.le_of_ble_eq_true rfl⟩) ⟨tp_blind, va_recv hw.1 hw.2.1 (ci := 2) (q0 := 0) rfl rfl, tp_pre hw [0, 1, 2, 3, 4] rfl rfl⟩ rfl rfl hl.1 rfl (lv_room (Nat.le_of_ble_eq_true rfl)) d_Matches_findLongest_77 ⟨Nat.le_of_ble_eq_true rfl, Nat.le_of_ble_eq_true rfl⟩) hw [0, 1, 2, 3, 4] [] [0, 1, 2, 3, 4] rfl rfl rfl (by decide) rfl rfl (fun H locs hw => ?_)
            refine lv_istore (lv' := [(4, .int r13), (0, .ref q_mt), (1, .int x1), (2, .int x2), (3, .int x3)]) hx hb d_Matches_findLongest_80 hl (by decide +kernel) rfl (fun ls hl => ?_)
            refine lv_iload hx hb d_Matches_findLongest_82 (lv_at hl 0 rfl) ?_
            refine lv_iconst (v := (4 : Int32)) hx hb d_Matches_findLongest_84 (by decide +kernel) ?_
            refine lv_icmp_lt (tgt := 110) hx hb d_Matches_findLongest_85 (by decide +kernel) (fun hc15 => ?_) (fun hc15 => ?_)
            · replace hm := tp_it hc15 hm
              refine lv_aload_n hx hb d_Matches_findLongest_110 rfl (lv_at hl 1 rfl) ?_
              refine lv_iload_n hx hb d_Matches_findLongest_111 rfl (lv_at hl 3 rfl) ?_
              obtain ⟨r16, hm17, hm⟩ := tp_b1_e hm
              refine tp_calli (wr := []) (WS' := [(q_mt, .inr (2, [.ref q_i, .ref q_mtb, .ref q_mtl, .int mt_from, .int mt_to, .int mt_len, .int mt_dist])), (q_i, .inr (3, [.ref q_iB, .int i_c])), (q_iB, .inl (cB, 10000, .inl i_f)), (q_mtb, .inl (cI, 10000, .inl mt_bef)), (q_mtl, .inl (cI, 2048, .inl mt_lat))]) (va_runV (As := [.int x2]) (rest := []) hF (ct_Matches_earlier (l := l) (D := D) (cB := cB) (cI := cI) (tM := tM) (q_mt := q_mt) (q_i := q_i) (q_iB := q_iB) (q_mtb := q_mtb) (q_mtl := q_mtl) (mt_from := mt_from) (mt_to := mt_to) (mt_len := mt_len) (mt_dist := mt_dist) (i_c := i_c) (i_f := i_f) (mt_bef := mt_bef) (mt_lat := mt_lat) (x1 := x2) (r := r16) hm17 _) (cwV 1 hts (tpG_V wd_58 wd_59 wd_60 wd_42 wd_57) rfl rfl rfl ⟨rfl, yd_Matches_earlier⟩ ⟨Nat.le_of_ble_eq_true rfl, Nat.le_of_ble_eq_true rfl⟩) ⟨tp_blind, va_recv hw.1 hw.2.1 (ci := 2) (q0 := 0) rfl rfl, tp_pre hw [0, 1, 2, 3, 4] rfl rfl⟩ rfl rfl hl.1 rfl (lv_room (Nat.le_of_ble_eq_true rfl)) d_Matches_findLongest_112 ⟨Nat.le_of_ble_eq_true rfl, Nat.le_of_ble_eq_true rfl⟩) hw [0, 1, 2, 3, 4] [] [0, 1, 2, 3, 4] rfl rfl rfl (by decide) rfl rfl (fun H locs hw => ?_)
              refine lv_istore_n (lv' := [(2, .int r16), (4, .int r13), (0, .ref q_mt), (1, .int x1), (3, .int x3)]) hx hb d_Matches_findLongest_115 rfl hl (by decide +kernel) rfl (fun ls hl => ?_)
              refine lv_iinc (v := (x3 + (1 : Int32))) (lv' := [(3, .int (x3 + (1 : Int32))), (2, .int r16), (4, .int r13), (0, .ref q_mt), (1, .int x1)]) hx hb d_Matches_findLongest_116 hl (k := 4) rfl rfl (by decide +kernel) rfl (fun ls hl => ?_)
              refine lv_goto (tgt := 13) hx hb d_Matches_findLongest_119 (by decide +kernel) ?_
              exact ih13 _ _ _ _ _ _ _ _ hm hw (lv_sub hl [3, 4, 1, 0] rfl)
            · replace hm := tp_if hc15 hm
              refine lv_iload hx hb d_Matches_findLongest_88 (lv_at hl 0 rfl) ?_
              refine lv_aload_n hx hb d_Matches_findLongest_90 rfl (lv_at hl 1 rfl) ?_
              refine tp_get (v := .int mt_len) (C := R_Matches) (T := T_Matches) hx hb hts fw_Matches hown hw 0 rfl rfl 5 (by decide +kernel) (hts _ wd_56) rfl d_Matches_findLongest_91 ?_
              refine lv_icmp_le (tgt := 110) hx hb d_Matches_findLongest_94 (by decide +kernel) (fun hc18 => ?_) (fun hc18 => ?_)
              · replace hm := tp_it hc18 hm
                refine lv_aload_n hx hb d_Matches_findLongest_110 rfl (lv_at hl 1 rfl) ?_
                refine lv_iload_n hx hb d_Matches_findLongest_111 rfl (lv_at hl 3 rfl) ?_
                obtain ⟨r19, hm20, hm⟩ := tp_b1_e hm
                refine tp_calli (wr := []) (WS' := [(q_mt, .inr (2, [.ref q_i, .ref q_mtb, .ref q_mtl, .int mt_from, .int mt_to, .int mt_len, .int mt_dist])), (q_i, .inr (3, [.ref q_iB, .int i_c])), (q_iB, .inl (cB, 10000, .inl i_f)), (q_mtb, .inl (cI, 10000, .inl mt_bef)), (q_mtl, .inl (cI, 2048, .inl mt_lat))]) (va_runV (As := [.int x2]) (rest := []) hF (ct_Matches_earlier (l := l) (D := D) (cB := cB) (cI := cI) (tM := tM) (q_mt := q_mt) (q_i := q_i) (q_iB := q_iB) (q_mtb := q_mtb) (q_mtl := q_mtl) (mt_from := mt_from) (mt_to := mt_to) (mt_len := mt_len) (mt_dist := mt_dist) (i_c := i_c) (i_f := i_f) (mt_bef := mt_bef) (mt_lat := mt_lat) (x1 := x2) (r := r19) hm20 _) (cwV 1 hts (tpG_V wd_58 wd_59 wd_60 wd_42 wd_57) rfl rfl rfl ⟨rfl, yd_Matches_earlier⟩ ⟨Nat.le_of_ble_eq_true rfl, Nat.le_of_ble_eq_true rfl⟩) ⟨tp_blind, va_recv hw.1 hw.2.1 (ci := 2) (q0 := 0) rfl rfl, tp_pre hw [0, 1, 2, 3, 4] rfl rfl⟩ rfl rfl hl.1 rfl (lv_room (Nat.le_of_ble_eq_true rfl)) d_Matches_findLongest_112 ⟨Nat.le_of_ble_eq_true rfl, Nat.le_of_ble_eq_true rfl⟩) hw [0, 1, 2, 3, 4] [] [0, 1, 2, 3, 4] rfl rfl rfl (by decide) rfl rfl (fun H locs hw => ?_)
                refine lv_istore_n (lv' := [(2, .int r19), (4, .int r13), (0, .ref q_mt), (1, .int x1), (3, .int x3)]) hx hb d_Matches_findLongest_115 rfl hl (by decide +kernel) rfl (fun ls hl => ?_)
                refine lv_iinc (v := (x3 + (1 : Int32))) (lv' := [(3, .int (x3 + (1 : Int32))), (2, .int r19), (4, .int r13), (0, .ref q_mt), (1, .int x1)]) hx hb d_Matches_findLongest_116 hl (k := 4) rfl rfl (by decide +kernel) rfl (fun ls hl => ?_)
                refine lv_goto (tgt := 13) hx hb d_Matches_findLongest_119 (by decide +kernel) ?_
                exact ih13 _ _ _ _ _ _ _ _ hm hw (lv_sub hl [3, 4, 1, 0] rfl)
              · replace hm := tp_if hc18 hm
                refine lv_aload_n hx hb d_Matches_findLongest_97 rfl (lv_at hl 1 rfl) ?_
                refine lv_iload hx hb d_Matches_findLongest_98 (lv_at hl 0 rfl) ?_
                refine tp_put (v := .int r13) (C := R_Matches) (T := T_Matches) (WS' := [(q_mt, .inr (2, [.ref q_i, .ref q_mtb, .ref q_mtl, .int mt_from, .int mt_to, .int r13, .int mt_dist])), (q_i, .inr (3, [.ref q_iB, .int i_c])), (q_iB, .inl (cB, 10000, .inl i_f)), (q_mtb, .inl (cI, 10000, .inl mt_bef)), (q_mtl, .inl (cI, 2048, .inl mt_lat))]) hx hb hts fw_Matches ty_Matches ty_Matches_ok nm_Matches hown hw 0 rfl rfl 5 (by decide +kernel) (hts _ wd_56) rfl rfl rfl (Nat.le_of_ble_eq_true rfl) rfl d_Matches_findLongest_100 (fun H locs hw => ?_)
                refine lv_aload_n hx hb d_Matches_findLongest_103 rfl (lv_at hl 1 rfl) ?_
                refine lv_iload_n hx hb d_Matches_findLongest_104 rfl (lv_at hl 2 rfl) ?_
                refine lv_iload_n hx hb d_Matches_findLongest_105 rfl (lv_at hl 3 rfl) ?_
                refine lv_isub hx hb d_Matches_findLongest_106 ?_
                refine tp_put (v := .int (x1 - x2)) (C := R_Matches) (T := T_Matches) (WS' := [(q_mt, .inr (2, [.ref q_i, .ref q_mtb, .ref q_mtl, .int mt_from, .int mt_to, .int r13, .int (x1 - x2)])), (q_i, .inr (3, [.ref q_iB, .int i_c])), (q_iB, .inl (cB, 10000, .inl i_f)), (q_mtb, .inl (cI, 10000, .inl mt_bef)), (q_mtl, .inl (cI, 2048, .inl mt_lat))]) hx hb hts fw_Matches ty_Matches ty_Matches_ok nm_Matches hown hw 0 rfl rfl 6 (by decide +kernel) (hts _ wd_65) rfl rfl rfl (Nat.le_of_ble_eq_true rfl) rfl d_Matches_findLongest_107 (fun H locs hw => ?_)
                refine lv_aload_n hx hb d_Matches_findLongest_110 rfl (lv_at hl 1 rfl) ?_
                refine lv_iload_n hx hb d_Matches_findLongest_111 rfl (lv_at hl 3 rfl) ?_
                obtain ⟨r21, hm22, hm⟩ := tp_b1_e hm
                refine tp_calli (wr := []) (WS' := [(q_mt, .inr (2, [.ref q_i, .ref q_mtb, .ref q_mtl, .int mt_from, .int mt_to, .int r13, .int (x1 - x2)])), (q_i, .inr (3, [.ref q_iB, .int i_c])), (q_iB, .inl (cB, 10000, .inl i_f)), (q_mtb, .inl (cI, 10000, .inl mt_bef)), (q_mtl, .inl (cI, 2048, .inl mt_lat))]) (va_runV (As := [.int x2]) (rest := []) hF (ct_Matches_earlier (l := l) (D := D) (cB := cB) (cI := cI) (tM := tM) (q_mt := q_mt) (q_i := q_i) (q_iB := q_iB) (q_mtb := q_mtb) (q_mtl := q_mtl) (mt_from := mt_from) (mt_to := mt_to) (mt_len := r13) (mt_dist := (x1 - x2)) (i_c := i_c) (i_f := i_f) (mt_bef := mt_bef) (mt_lat := mt_lat) (x1 := x2) (r := r21) hm22 _) (cwV 1 hts (tpG_V wd_58 wd_59 wd_60 wd_42 wd_57) rfl rfl rfl ⟨rfl, yd_Matches_earlier⟩ ⟨Nat.le_of_ble_eq_true rfl, Nat.le_of_ble_eq_true rfl⟩) ⟨tp_blind, va_recv hw.1 hw.2.1 (ci := 2) (q0 := 0) rfl rfl, tp_pre hw [0, 1, 2, 3, 4] rfl rfl⟩ rfl rfl hl.1 rfl (lv_room (Nat.le_of_ble_eq_true rfl)) d_Matches_findLongest_112 ⟨Nat.le_of_ble_eq_true rfl, Nat.le_of_ble_eq_true rfl⟩) hw [0, 1, 2, 3, 4] [] [0, 1, 2, 3, 4] rfl rfl rfl (by decide) rfl rfl (fun H locs hw => ?_)
                refine lv_istore_n (lv' := [(2, .int r21), (4, .int r13), (0, .ref q_mt), (1, .int x1), (3, .int x3)]) hx hb d_Matches_findLongest_115 rfl hl (by decide +kernel) rfl (fun ls hl => ?_)
                refine lv_iinc (v := (x3 + (1 : Int32))) (lv' := [(3, .int (x3 + (1 : Int32))), (2, .int r21), (4, .int r13), (0, .ref q_mt), (1, .int x1)]) hx hb d_Matches_findLongest_116 hl (k := 4) rfl rfl (by decide +kernel) rfl (fun ls hl => ?_)
                refine lv_goto (tgt := 13) hx hb d_Matches_findLongest_119 (by decide +kernel) ?_
                exact ih13 _ _ _ _ _ _ _ _ hm hw (lv_sub hl [3, 4, 1, 0] rfl)
set_option maxHeartbeats 4000000 in
set_option maxRecDepth 100000 in
theorem ct_Matches_findLongest {q_mt q_i q_iB q_mtb q_mtl : Nat} {mt_from : Int32} {mt_to : Int32} {mt_len : Int32} {mt_dist : Int32} {i_c : Int32} {i_f : Nat → Int32} {mt_bef : Nat → Int32} {mt_lat : Nat → Int32} {N : Nat} {x1 : Int32} {mt_len' : Int32} {mt_dist' : Int32} (hm : m_Matches_findLongest N x1 mt_from mt_to mt_len mt_dist i_c i_f mt_bef = some (mt_len', mt_dist')) (sz : Nat) : tp_Cv l y_Matches_findLongest ws_Matches_findLongest rm_Matches_findLongest D (tp_ty cB cI) tM [.ref q_mt, .int x1] [(q_mt, .inr (2, [.ref q_i, .ref q_mtb, .ref q_mtl, .int mt_from, .int mt_to, .int mt_len, .int mt_dist])), (q_i, .inr (3, [.ref q_iB, .int i_c])), (q_iB, .inl (cB, 10000, .inl i_f)), (q_mtb, .inl (cI, 10000, .inl mt_bef)), (q_mtl, .inl (cI, 2048, .inl mt_lat))] sz [(q_mt, .inr (2, [.ref q_i, .ref q_mtb, .ref q_mtl, .int mt_from, .int mt_to, .int mt_len', .int mt_dist'])), (q_i, .inr (3, [.ref q_iB, .int i_c])), (q_iB, .inl (cB, 10000, .inl i_f)), (q_mtb, .inl (cI, 10000, .inl mt_bef)), (q_mtl, .inl (cI, 2048, .inl mt_lat))] := by
  refine Met.ofW (cc := c_Matches_findLongest) (maxL := 5) (ret := none) (by decide) rfl ?_
  intro p e s m args below meth c s₁ B hml hv
  obtain ⟨rfl, hv⟩ := hv
  have hw := tp_entry hv
  generalize va_A [(q_mt, .inr (2, [.ref q_i, .ref q_mtb, .ref q_mtl, .int mt_from, .int mt_to, .int mt_len, .int mt_dist])), (q_i, .inr (3, [.ref q_iB, .int i_c])), (q_iB, .inl (cB, 10000, .inl i_f)), (q_mtb, .inl (cI, 10000, .inl mt_bef)), (q_mtl, .inl (cI, 2048, .inl mt_lat))] sz = A at hw ⊢
  have hx := B.exec
  have hb := B.bytes
  have hr := B.returns
  have hts0 := atoms_spec (ws := ws_Matches_findLongest) B.pre
  have hts := fun w h => hts0 w (List.mem_cons_of_mem _ h)
  have hown : s.vm.findClass R_Matches = some m.cls := findClass_of_methodNamed B.named
  have hlocks := B.notSynchronized
  have hF : CallFix p m c c_Matches_findLongest 5 s _ tpG R_Matches := ⟨hx, hb, hml, hown, hts⟩
  have hF2 : tp_F p m c c_Matches_findLongest 5 s _ tpG R_Matches meth none := ⟨hF, hr, hlocks⟩
  have hl := lv_entry ([.ref q_mt, .int x1]) (n := 5) (Nat.le_of_ble_eq_true rfl)
  rw [lg_entry_eq]
  generalize (lg_sl ([.ref q_mt, .int x1]) ++ List.replicate (5 - (lg_sl ([.ref q_mt, .int x1])).length) Slot.unset).toArray = ls at hl ⊢
  replace hl : lv_has ls 5 [(0, .ref q_mt), (1, .int x1)] := hl
  unfold m_Matches_findLongest at hm
  refine lv_aload_n hx hb d_Matches_findLongest_0 rfl (lv_at hl 0 rfl) ?_
  refine lv_iconst (v := (0 : Int32)) hx hb d_Matches_findLongest_1 (by decide +kernel) ?_
  refine tp_put (v := .int (0 : Int32)) (C := R_Matches) (T := T_Matches) (WS' := [(q_mt, .inr (2, [.ref q_i, .ref q_mtb, .ref q_mtl, .int mt_from, .int mt_to, .int (0 : Int32), .int mt_dist])), (q_i, .inr (3, [.ref q_iB, .int i_c])), (q_iB, .inl (cB, 10000, .inl i_f)), (q_mtb, .inl (cI, 10000, .inl mt_bef)), (q_mtl, .inl (cI, 2048, .inl mt_lat))]) hx hb hts fw_Matches ty_Matches ty_Matches_ok nm_Matches hown hw 0 rfl rfl 5 (by decide +kernel) (hts _ wd_56) rfl rfl rfl (Nat.le_of_ble_eq_true rfl) rfl d_Matches_findLongest_2 (fun H locs hw => ?_)
  refine lv_aload_n hx hb d_Matches_findLongest_5 rfl (lv_at hl 0 rfl) ?_
  refine lv_iload_n hx hb d_Matches_findLongest_6 rfl (lv_at hl 1 rfl) ?_
  obtain ⟨r1, hm2, hm⟩ := tp_b1_e hm
  refine tp_calli (wr := []) (WS' := [(q_mt, .inr (2, [.ref q_i, .ref q_mtb, .ref q_mtl, .int mt_from, .int mt_to, .int (0 : Int32), .int mt_dist])), (q_i, .inr (3, [.ref q_iB, .int i_c])), (q_iB, .inl (cB, 10000, .inl i_f)), (q_mtb, .inl (cI, 10000, .inl mt_bef)), (q_mtl, .inl (cI, 2048, .inl mt_lat))]) (va_runV (As := [.int x1]) (rest := []) hF (ct_Matches_earlier (l := l) (D := D) (cB := cB) (cI := cI) (tM := tM) (q_mt := q_mt) (q_i := q_i) (q_iB := q_iB) (q_mtb := q_mtb) (q_mtl := q_mtl) (mt_from := mt_from) (mt_to := mt_to) (mt_len := (0 : Int32)) (mt_dist := mt_dist) (i_c := i_c) (i_f := i_f) (mt_bef := mt_bef) (mt_lat := mt_lat) (x1 := x1) (r := r1) hm2 _) (cwV 1 hts (tpG_V wd_58 wd_59 wd_60 wd_42 wd_57) rfl rfl rfl ⟨rfl, yd_Matches_earlier⟩ ⟨Nat.le_of_ble_eq_true rfl, Nat.le_of_ble_eq_true rfl⟩) ⟨tp_blind, va_recv hw.1 hw.2.1 (ci := 2) (q0 := 0) rfl rfl, tp_pre hw [0, 1, 2, 3, 4] rfl rfl⟩ rfl rfl hl.1 rfl (lv_room (Nat.le_of_ble_eq_true rfl)) d_Matches_findLongest_7 ⟨Nat.le_of_ble_eq_true rfl, Nat.le_of_ble_eq_true rfl⟩) hw [0, 1, 2, 3, 4] [] [0, 1, 2, 3, 4] rfl rfl rfl (by decide) rfl rfl (fun H locs hw => ?_)
  refine lv_istore_n (lv' := [(2, .int r1), (0, .ref q_mt), (1, .int x1)]) hx hb d_Matches_findLongest_10 rfl hl (by decide +kernel) rfl (fun ls hl => ?_)
  refine lv_iconst (v := (0 : Int32)) hx hb d_Matches_findLongest_11 (by decide +kernel) ?_
  refine lv_istore_n (lv' := [(3, .int (0 : Int32)), (2, .int r1), (0, .ref q_mt), (1, .int x1)]) hx hb d_Matches_findLongest_12 rfl hl (by decide +kernel) rfl (fun ls hl => ?_)
  exact w_Matches_findLongest_13 hF2  N _ _ _ _ _ _ _ _ hm hw (lv_sub hl [2, 3, 1, 0] rfl)
end
abbrev rm_Matches_dropIfNextIsLonger : Room := { frames := 2, cells := 0, slots := 0, locals := 48 }
abbrev ws_Matches_dropIfNextIsLonger : List Cond := .code y_Matches_dropIfNextIsLonger c_Matches_dropIfNextIsLonger 4 none :: tpG
noncomputable def m_Matches_dropIfNextIsLonger (N : Nat) (x1 : Int32) (mt_from : Int32) (mt_to : Int32) (mt_len : Int32) (mt_dist : Int32) (i_c : Int32) (i_f : Nat → Int32) (mt_bef : Nat → Int32) : Option (Int32 × Int32) :=
  tp_b2 (m_Matches_findLongest N (x1 + (1 : Int32)) mt_from mt_to mt_len mt_dist i_c i_f mt_bef) fun mt_len_1 mt_dist_2 =>
  if mt_len_1 ≤ mt_len then
    some (mt_len, mt_dist)
  else
    some ((0 : Int32), mt_dist)
section
variable {p : Program} {l : Launch} {e : Env} {s : State} {m : MethodId} {args : Array Value} {below : List Frame} {meth : Method} {c : Code} {A : Nat → Prop} {D : va_G} {cB cI : ClassId} {tM : Nat}
set_option maxHeartbeats 4000000 in
set_option maxRecDepth 100000 in
theorem ct_Matches_dropIfNextIsLonger {q_mt q_i q_iB q_mtb q_mtl : Nat} {mt_from : Int32} {mt_to : Int32} {mt_len : Int32} {mt_dist : Int32} {i_c : Int32} {i_f : Nat → Int32} {mt_bef : Nat → Int32} {mt_lat : Nat → Int32} {N : Nat} {x1 : Int32} {mt_len' : Int32} {mt_dist' : Int32} (hm : m_Matches_dropIfNextIsLonger N x1 mt_from mt_to mt_len mt_dist i_c i_f mt_bef = some (mt_len', mt_dist')) (sz : Nat) : tp_Cv l y_Matches_dropIfNextIsLonger ws_Matches_dropIfNextIsLonger rm_Matches_dropIfNextIsLonger D (tp_ty cB cI) tM [.ref q_mt, .int x1] [(q_mt, .inr (2, [.ref q_i, .ref q_mtb, .ref q_mtl, .int mt_from, .int mt_to, .int mt_len, .int mt_dist])), (q_i, .inr (3, [.ref q_iB, .int i_c])), (q_iB, .inl (cB, 10000, .inl i_f)), (q_mtb, .inl (cI, 10000, .inl mt_bef)), (q_mtl, .inl (cI, 2048, .inl mt_lat))] sz [(q_mt, .inr (2, [.ref q_i, .ref q_mtb, .ref q_mtl, .int mt_from, .int mt_to, .int mt_len', .int mt_dist'])), (q_i, .inr (3, [.ref q_iB, .int i_c])), (q_iB, .inl (cB, 10000, .inl i_f)), (q_mtb, .inl (cI, 10000, .inl mt_bef)), (q_mtl, .inl (cI, 2048, .inl mt_lat))] := by
  refine Met.ofW (cc := c_Matches_dropIfNextIsLonger) (maxL := 4) (ret := none) (by decide) rfl ?_
  intro p e s m args below meth c s₁ B hml hv
  obtain ⟨rfl, hv⟩ := hv
  have hw := tp_entry hv
  generalize va_A [(q_mt, .inr (2, [.ref q_i, .ref q_mtb, .ref q_mtl, .int mt_from, .int mt_to, .int mt_len, .int mt_dist])), (q_i, .inr (3, [.ref q_iB, .int i_c])), (q_iB, .inl (cB, 10000, .inl i_f)), (q_mtb, .inl (cI, 10000, .inl mt_bef)), (q_mtl, .inl (cI, 2048, .inl mt_lat))] sz = A at hw ⊢
  have hx := B.exec
  have hb := B.bytes
  have hr := B.returns
  have hts0 := atoms_spec (ws := ws_Matches_dropIfNextIsLonger) B.pre
  have hts := fun w h => hts0 w (List.mem_cons_of_mem _ h)
  have hown : s.vm.findClass R_Matches = some m.cls := findClass_of_methodNamed B.named
  have hlocks := B.notSynchronized
  have hF : CallFix p m c c_Matches_dropIfNextIsLonger 4 s _ tpG R_Matches := ⟨hx, hb, hml, hown, hts⟩
  have hF2 : tp_F p m c c_Matches_dropIfNextIsLonger 4 s _ tpG R_Matches meth none := ⟨hF, hr, hlocks⟩
  have hl := lv_entry ([.ref q_mt, .int x1]) (n := 4) (Nat.le_of_ble_eq_true rfl)
  rw [lg_entry_eq]
  generalize (lg_sl ([.ref q_mt, .int x1]) ++ List.replicate (4 - (lg_sl ([.ref q_mt, .int x1])).length) Slot.unset).toArray = ls at hl ⊢
  replace hl : lv_has ls 4 [(0, .ref q_mt), (1, .int x1)] := hl
  unfold m_Matches_dropIfNextIsLonger at hm
  refine lv_aload_n hx hb d_Matches_dropIfNextIsLonger_0 rfl (lv_at hl 0 rfl) ?_
  refine tp_get (v := .int mt_len) (C := R_Matches) (T := T_Matches) hx hb hts fw_Matches hown hw 0 rfl rfl 5 (by decide +kernel) (hts _ wd_56) rfl d_Matches_dropIfNextIsLonger_1 ?_
  refine lv_istore_n (lv' := [(2, .int mt_len), (0, .ref q_mt), (1, .int x1)]) hx hb d_Matches_dropIfNextIsLonger_4 rfl hl (by decide +kernel) rfl (fun ls hl => ?_)
  refine lv_aload_n hx hb d_Matches_dropIfNextIsLonger_5 rfl (lv_at hl 1 rfl) ?_
  refine tp_get (v := .int mt_dist) (C := R_Matches) (T := T_Matches) hx hb hts fw_Matches hown hw 0 rfl rfl 6 (by decide +kernel) (hts _ wd_65) rfl d_Matches_dropIfNextIsLonger_6 ?_
  refine lv_istore_n (lv' := [(3, .int mt_dist), (2, .int mt_len), (0, .ref q_mt), (1, .int x1)]) hx hb d_Matches_dropIfNextIsLonger_9 rfl hl (by decide +kernel) rfl (fun ls hl => ?_)
  refine lv_aload_n hx hb d_Matches_dropIfNextIsLonger_10 rfl (lv_at hl 2 rfl) ?_
  refine lv_iload_n hx hb d_Matches_dropIfNextIsLonger_11 rfl (lv_at hl 3 rfl) ?_
  refine lv_iconst (v := (1 : Int32)) hx hb d_Matches_dropIfNextIsLonger_12 (by decide +kernel) ?_
  refine lv_iadd hx hb d_Matches_dropIfNextIsLonger_13 ?_
  obtain ⟨mt_len_1, mt_dist_2, hm3, hm⟩ := tp_b2_e hm
  refine tp_callv (wr := []) (WS' := [(q_mt, .inr (2, [.ref q_i, .ref q_mtb, .ref q_mtl, .int mt_from, .int mt_to, .int mt_len_1, .int mt_dist_2])), (q_i, .inr (3, [.ref q_iB, .int i_c])), (q_iB, .inl (cB, 10000, .inl i_f)), (q_mtb, .inl (cI, 10000, .inl mt_bef)), (q_mtl, .inl (cI, 2048, .inl mt_lat))]) (va_runV (As := [.int (x1 + (1 : Int32))]) (rest := []) hF (ct_Matches_findLongest (l := l) (D := D) (cB := cB) (cI := cI) (tM := tM) (q_mt := q_mt) (q_i := q_i) (q_iB := q_iB) (q_mtb := q_mtb) (q_mtl := q_mtl) (mt_from := mt_from) (mt_to := mt_to) (mt_len := mt_len) (mt_dist := mt_dist) (i_c := i_c) (i_f := i_f) (mt_bef := mt_bef) (mt_lat := mt_lat) (x1 := (x1 + (1 : Int32))) (N := N) (mt_len' := mt_len_1) (mt_dist' := mt_dist_2) hm3 _) (cwV 1 hts (tpG_V wd_68 wd_69 wd_70 wd_42 wd_67) rfl rfl rfl ⟨rfl, yd_Matches_findLongest⟩ ⟨Nat.le_of_ble_eq_true rfl, Nat.le_of_ble_eq_true rfl⟩) ⟨tp_blind, va_recv hw.1 hw.2.1 (ci := 2) (q0 := 0) rfl rfl, tp_pre hw [0, 1, 2, 3, 4] rfl rfl⟩ rfl rfl hl.1 rfl (lv_room (Nat.le_of_ble_eq_true rfl)) d_Matches_dropIfNextIsLonger_14 ⟨Nat.le_of_ble_eq_true rfl, Nat.le_of_ble_eq_true rfl⟩) hw [0, 1, 2, 3, 4] [] [0, 1, 2, 3, 4] rfl rfl rfl (by decide) rfl rfl (fun H locs hw => ?_)
  refine lv_aload_n hx hb d_Matches_dropIfNextIsLonger_17 rfl (lv_at hl 2 rfl) ?_
  refine lv_aload_n hx hb d_Matches_dropIfNextIsLonger_18 rfl (lv_at hl 2 rfl) ?_
  refine tp_get (v := .int mt_len_1) (C := R_Matches) (T := T_Matches) hx hb hts fw_Matches hown hw 0 rfl rfl 5 (by decide +kernel) (hts _ wd_56) rfl d_Matches_dropIfNextIsLonger_19 ?_
  refine lv_iload_n hx hb d_Matches_dropIfNextIsLonger_22 rfl (lv_at hl 1 rfl) ?_
  refine lv_icmp_le (tgt := 30) hx hb d_Matches_dropIfNextIsLonger_23 (by decide +kernel) (fun hc4 => ?_) (fun hc4 => ?_)
  · replace hm := tp_it hc4 hm
    refine lv_iload_n hx hb d_Matches_dropIfNextIsLonger_30 rfl (lv_at hl 1 rfl) ?_
    refine tp_put (v := .int mt_len) (C := R_Matches) (T := T_Matches) (WS' := [(q_mt, .inr (2, [.ref q_i, .ref q_mtb, .ref q_mtl, .int mt_from, .int mt_to, .int mt_len, .int mt_dist_2])), (q_i, .inr (3, [.ref q_iB, .int i_c])), (q_iB, .inl (cB, 10000, .inl i_f)), (q_mtb, .inl (cI, 10000, .inl mt_bef)), (q_mtl, .inl (cI, 2048, .inl mt_lat))]) hx hb hts fw_Matches ty_Matches ty_Matches_ok nm_Matches hown hw 0 rfl rfl 5 (by decide +kernel) (hts _ wd_56) rfl rfl rfl (Nat.le_of_ble_eq_true rfl) rfl d_Matches_dropIfNextIsLonger_31 (fun H locs hw => ?_)
    refine lv_aload_n hx hb d_Matches_dropIfNextIsLonger_34 rfl (lv_at hl 2 rfl) ?_
    refine lv_iload_n hx hb d_Matches_dropIfNextIsLonger_35 rfl (lv_at hl 0 rfl) ?_
    refine tp_put (v := .int mt_dist) (C := R_Matches) (T := T_Matches) (WS' := [(q_mt, .inr (2, [.ref q_i, .ref q_mtb, .ref q_mtl, .int mt_from, .int mt_to, .int mt_len, .int mt_dist])), (q_i, .inr (3, [.ref q_iB, .int i_c])), (q_iB, .inl (cB, 10000, .inl i_f)), (q_mtb, .inl (cI, 10000, .inl mt_bef)), (q_mtl, .inl (cI, 2048, .inl mt_lat))]) hx hb hts fw_Matches ty_Matches ty_Matches_ok nm_Matches hown hw 0 rfl rfl 6 (by decide +kernel) (hts _ wd_65) rfl rfl rfl (Nat.le_of_ble_eq_true rfl) rfl d_Matches_dropIfNextIsLonger_36 (fun H locs hw => ?_)
    obtain ⟨rfl, rfl⟩ := tp_inj2 hm
    exact tp_vret () hx hb hr hlocks hw d_Matches_dropIfNextIsLonger_39
  · replace hm := tp_if hc4 hm
    refine lv_iconst (v := (0 : Int32)) hx hb d_Matches_dropIfNextIsLonger_26 (by decide +kernel) ?_
    refine lv_goto (tgt := 31) hx hb d_Matches_dropIfNextIsLonger_27 (by decide +kernel) ?_
    refine tp_put (v := .int (0 : Int32)) (C := R_Matches) (T := T_Matches) (WS' := [(q_mt, .inr (2, [.ref q_i, .ref q_mtb, .ref q_mtl, .int mt_from, .int mt_to, .int (0 : Int32), .int mt_dist_2])), (q_i, .inr (3, [.ref q_iB, .int i_c])), (q_iB, .inl (cB, 10000, .inl i_f)), (q_mtb, .inl (cI, 10000, .inl mt_bef)), (q_mtl, .inl (cI, 2048, .inl mt_lat))]) hx hb hts fw_Matches ty_Matches ty_Matches_ok nm_Matches hown hw 0 rfl rfl 5 (by decide +kernel) (hts _ wd_56) rfl rfl rfl (Nat.le_of_ble_eq_true rfl) rfl d_Matches_dropIfNextIsLonger_31 (fun H locs hw => ?_)
    refine lv_aload_n hx hb d_Matches_dropIfNextIsLonger_34 rfl (lv_at hl 2 rfl) ?_
    refine lv_iload_n hx hb d_Matches_dropIfNextIsLonger_35 rfl (lv_at hl 0 rfl) ?_
    refine tp_put (v := .int mt_dist) (C := R_Matches) (T := T_Matches) (WS' := [(q_mt, .inr (2, [.ref q_i, .ref q_mtb, .ref q_mtl, .int mt_from, .int mt_to, .int (0 : Int32), .int mt_dist])), (q_i, .inr (3, [.ref q_iB, .int i_c])), (q_iB, .inl (cB, 10000, .inl i_f)), (q_mtb, .inl (cI, 10000, .inl mt_bef)), (q_mtl, .inl (cI, 2048, .inl mt_lat))]) hx hb hts fw_Matches ty_Matches ty_Matches_ok nm_Matches hown hw 0 rfl rfl 6 (by decide +kernel) (hts _ wd_65) rfl rfl rfl (Nat.le_of_ble_eq_true rfl) rfl d_Matches_dropIfNextIsLonger_36 (fun H locs hw => ?_)
    obtain ⟨rfl, rfl⟩ := tp_inj2 hm
    exact tp_vret () hx hb hr hlocks hw d_Matches_dropIfNextIsLonger_39
end
abbrev rm_Matches_findAt : Room := { frames := 3, cells := 0, slots := 0, locals := 71 }
abbrev ws_Matches_findAt : List Cond := .code y_Matches_findAt c_Matches_findAt 3 none :: tpG
noncomputable def m_Matches_findAt (N : Nat) (x1 : Int32) (x2 : Int32) (mt_from : Int32) (mt_to : Int32) (mt_len : Int32) (mt_dist : Int32) (i_c : Int32) (i_f : Nat → Int32) (mt_bef : Nat → Int32) : Option (Int32 × Int32) :=
  if x2 = 0 then
    tp_b2 (m_Matches_findNearest N x1 (4 : Int32) mt_from mt_to mt_len mt_dist i_f mt_bef) fun mt_len_18 mt_dist_19 =>
    some (mt_len_18, mt_dist_19)
  else
    if x2 = (1 : Int32) then
      tp_b2 (m_Matches_findNearest N x1 (8 : Int32) mt_from mt_to mt_len mt_dist i_f mt_bef) fun mt_len_11 mt_dist_12 =>
      if mt_len_11 = 0 then
        tp_b2 (m_Matches_findNearest N x1 (4 : Int32) mt_from mt_to mt_len_11 mt_dist_12 i_f mt_bef) fun mt_len_15 mt_dist_16 =>
        some (mt_len_15, mt_dist_16)
      else
        some (mt_len_11, mt_dist_12)
    else
      tp_b2 (m_Matches_findLongest N x1 mt_from mt_to mt_len mt_dist i_c i_f mt_bef) fun mt_len_3 mt_dist_4 =>
      if x2 = (3 : Int32) then
        if mt_len_3 ≤ 0 then
          some (mt_len_3, mt_dist_4)
        else
          tp_b2 (m_Matches_dropIfNextIsLonger N x1 mt_from mt_to mt_len_3 mt_dist_4 i_c i_f mt_bef) fun mt_len_8 mt_dist_9 =>
          some (mt_len_8, mt_dist_9)
      else
        some (mt_len_3, mt_dist_4)
section
variable {p : Program} {l : Launch} {e : Env} {s : State} {m : MethodId} {args : Array Value} {below : List Frame} {meth : Method} {c : Code} {A : Nat → Prop} {D : va_G} {cB cI : ClassId} {tM : Nat}
set_option maxHeartbeats 4000000 in
set_option maxRecDepth 100000 in
theorem ct_Matches_findAt {q_mt q_i q_iB q_mtb q_mtl : Nat} {mt_from : Int32} {mt_to : Int32} {mt_len : Int32} {mt_dist : Int32} {i_c : Int32} {i_f : Nat → Int32} {mt_bef : Nat → Int32} {mt_lat : Nat → Int32} {N : Nat} {x1 : Int32} {x2 : Int32} {mt_len' : Int32} {mt_dist' : Int32} (hm : m_Matches_findAt N x1 x2 mt_from mt_to mt_len mt_dist i_c i_f mt_bef = some (mt_len', mt_dist')) (sz : Nat) : tp_Cv l y_Matches_findAt ws_Matches_findAt rm_Matches_findAt D (tp_ty cB cI) tM [.ref q_mt, .int x1, .int x2] [(q_mt, .inr (2, [.ref q_i, .ref q_mtb, .ref q_mtl, .int mt_from, .int mt_to, .int mt_len, .int mt_dist])), (q_i, .inr (3, [.ref q_iB, .int i_c])), (q_iB, .inl (cB, 10000, .inl i_f)), (q_mtb, .inl (cI, 10000, .inl mt_bef)), (q_mtl, .inl (cI, 2048, .inl mt_lat))] sz [(q_mt, .inr (2, [.ref q_i, .ref q_mtb, .ref q_mtl, .int mt_from, .int mt_to, .int mt_len', .int mt_dist'])), (q_i, .inr (3, [.ref q_iB, .int i_c])), (q_iB, .inl (cB, 10000, .inl i_f)), (q_mtb, .inl (cI, 10000, .inl mt_bef)), (q_mtl, .inl (cI, 2048, .inl mt_lat))] := by
  refine Met.ofW (cc := c_Matches_findAt) (maxL := 3) (ret := none) (by decide) rfl ?_
  intro p e s m args below meth c s₁ B hml hv
  obtain ⟨rfl, hv⟩ := hv
  have hw := tp_entry hv
  generalize va_A [(q_mt, .inr (2, [.ref q_i, .ref q_mtb, .ref q_mtl, .int mt_from, .int mt_to, .int mt_len, .int mt_dist])), (q_i, .inr (3, [.ref q_iB, .int i_c])), (q_iB, .inl (cB, 10000, .inl i_f)), (q_mtb, .inl (cI, 10000, .inl mt_bef)), (q_mtl, .inl (cI, 2048, .inl mt_lat))] sz = A at hw ⊢
  have hx := B.exec
  have hb := B.bytes
  have hr := B.returns
  have hts0 := atoms_spec (ws := ws_Matches_findAt) B.pre
  have hts := fun w h => hts0 w (List.mem_cons_of_mem _ h)
  have hown : s.vm.findClass R_Matches = some m.cls := findClass_of_methodNamed B.named
  have hlocks := B.notSynchronized
  have hF : CallFix p m c c_Matches_findAt 3 s _ tpG R_Matches := ⟨hx, hb, hml, hown, hts⟩
  have hF2 : tp_F p m c c_Matches_findAt 3 s _ tpG R_Matches meth none := ⟨hF, hr, hlocks⟩
  have hl := lv_entry ([.ref q_mt, .int x1, .int x2]) (n := 3) (Nat.le_of_ble_eq_true rfl)
  rw [lg_entry_eq]
  generalize (lg_sl ([.ref q_mt, .int x1, .int x2]) ++ List.replicate (3 - (lg_sl ([.ref q_mt, .int x1, .int x2])).length) Slot.unset).toArray = ls at hl ⊢
  replace hl : lv_has ls 3 [(0, .ref q_mt), (1, .int x1), (2, .int x2)] := hl
  unfold m_Matches_findAt at hm
  refine lv_iload_n hx hb d_Matches_findAt_0 rfl (lv_at hl 2 rfl) ?_
  refine lv_if_ne (tgt := 13) hx hb d_Matches_findAt_1 (by decide +kernel) (fun hc1 => ?_) (fun hc1 => ?_)
  · replace hm := tp_if hc1 hm
    refine lv_iload_n hx hb d_Matches_findAt_13 rfl (lv_at hl 2 rfl) ?_
    refine lv_iconst (v := (1 : Int32)) hx hb d_Matches_findAt_14 (by decide +kernel) ?_
    refine lv_icmp_ne (tgt := 41) hx hb d_Matches_findAt_15 (by decide +kernel) (fun hc2 => ?_) (fun hc2 => ?_)
    · replace hm := tp_if hc2 hm
      refine lv_aload_n hx hb d_Matches_findAt_41 rfl (lv_at hl 0 rfl) ?_
      refine lv_iload_n hx hb d_Matches_findAt_42 rfl (lv_at hl 1 rfl) ?_
      obtain ⟨mt_len_3, mt_dist_4, hm5, hm⟩ := tp_b2_e hm
      refine tp_callv (wr := []) (WS' := [(q_mt, .inr (2, [.ref q_i, .ref q_mtb, .ref q_mtl, .int mt_from, .int mt_to, .int mt_len_3, .int mt_dist_4])), (q_i, .inr (3, [.ref q_iB, .int i_c])), (q_iB, .inl (cB, 10000, .inl i_f)), (q_mtb, .inl (cI, 10000, .inl mt_bef)), (q_mtl, .inl (cI, 2048, .inl mt_lat))]) (va_runV (As := [.int x1]) (rest := []) hF (ct_Matches_findLongest (l := l) (D := D) (cB := cB) (cI := cI) (tM := tM) (q_mt := q_mt) (q_i := q_i) (q_iB := q_iB) (q_mtb := q_mtb) (q_mtl := q_mtl) (mt_from := mt_from) (mt_to := mt_to) (mt_len := mt_len) (mt_dist := mt_dist) (i_c := i_c) (i_f := i_f) (mt_bef := mt_bef) (mt_lat := mt_lat) (x1 := x1) (N := N) (mt_len' := mt_len_3) (mt_dist' := mt_dist_4) hm5 _) (cwV 1 hts (tpG_V wd_68 wd_69 wd_70 wd_42 wd_67) rfl rfl rfl ⟨rfl, yd_Matches_findLongest⟩ ⟨Nat.le_of_ble_eq_true rfl, Nat.le_of_ble_eq_true rfl⟩) ⟨tp_blind, va_recv hw.1 hw.2.1 (ci := 2) (q0 := 0) rfl rfl, tp_pre hw [0, 1, 2, 3, 4] rfl rfl⟩ rfl rfl hl.1 rfl (lv_room (Nat.le_of_ble_eq_true rfl)) d_Matches_findAt_43 ⟨Nat.le_of_ble_eq_true rfl, Nat.le_of_ble_eq_true rfl⟩) hw [0, 1, 2, 3, 4] [] [0, 1, 2, 3, 4] rfl rfl rfl (by decide) rfl rfl (fun H locs hw => ?_)
      refine lv_iload_n hx hb d_Matches_findAt_46 rfl (lv_at hl 2 rfl) ?_
      refine lv_iconst (v := (3 : Int32)) hx hb d_Matches_findAt_47 (by decide +kernel) ?_
      refine lv_icmp_ne (tgt := 63) hx hb d_Matches_findAt_48 (by decide +kernel) (fun hc6 => ?_) (fun hc6 => ?_)
      · replace hm := tp_if hc6 hm
        obtain ⟨rfl, rfl⟩ := tp_inj2 hm
        exact tp_vret () hx hb hr hlocks hw d_Matches_findAt_63
      · replace hm := tp_it hc6 hm
        refine lv_aload_n hx hb d_Matches_findAt_51 rfl (lv_at hl 0 rfl) ?_
        refine tp_get (v := .int mt_len_3) (C := R_Matches) (T := T_Matches) hx hb hts fw_Matches hown hw 0 rfl rfl 5 (by decide +kernel) (hts _ wd_56) rfl d_Matches_findAt_52 ?_
        refine lv_if_le (tgt := 63) hx hb d_Matches_findAt_55 (by decide +kernel) (fun hc7 => ?_) (fun hc7 => ?_)
        · replace hm := tp_it hc7 hm
          obtain ⟨rfl, rfl⟩ := tp_inj2 hm
          exact tp_vret () hx hb hr hlocks hw d_Matches_findAt_63
        · replace hm := tp_if hc7 hm
          refine lv_aload_n hx hb d_Matches_findAt_58 rfl (lv_at hl 0 rfl) ?_
          refine lv_iload_n hx hb d_Matches_findAt_59 rfl (lv_at hl 1 rfl) ?_
          obtain ⟨mt_len_8, mt_dist_9, hm10, hm⟩ := tp_b2_e hm
          refine tp_callv (wr := []) (WS' := [(q_mt, .inr (2, [.ref q_i, .ref q_mtb, .ref q_mtl, .int mt_from, .int mt_to, .int mt_len_8, .int mt_dist_9])), (q_i, .inr (3, [.ref q_iB, .int i_c])), (q_iB, .inl (cB, 10000, .inl i_f)), (q_mtb, .inl (cI, 10000, .inl mt_bef)), (q_mtl, .inl (cI, 2048, .inl mt_lat))]) (va_runV (As := [.int x1]) (rest := []) hF (ct_Matches_dropIfNextIsLonger (l := l) (D := D) (cB := cB) (cI := cI) (tM := tM) (q_mt := q_mt) (q_i := q_i) (q_iB := q_iB) (q_mtb := q_mtb) (q_mtl := q_mtl) (mt_from := mt_from) (mt_to := mt_to) (mt_len := mt_len_3) (mt_dist := mt_dist_4) (i_c := i_c) (i_f := i_f) (mt_bef := mt_bef) (mt_lat := mt_lat) (x1 := x1) (N := N) (mt_len' := mt_len_8) (mt_dist' := mt_dist_9) hm10 _) (cwV 1 hts (tpG_V wd_72 wd_73 wd_74 wd_42 wd_71) rfl rfl rfl ⟨rfl, yd_Matches_dropIfNextIsLonger⟩ ⟨Nat.le_of_ble_eq_true rfl, Nat.le_of_ble_eq_true rfl⟩) ⟨tp_blind, va_recv hw.1 hw.2.1 (ci := 2) (q0 := 0) rfl rfl, tp_pre hw [0, 1, 2, 3, 4] rfl rfl⟩ rfl rfl hl.1 rfl (lv_room (Nat.le_of_ble_eq_true rfl)) d_Matches_findAt_60 ⟨Nat.le_of_ble_eq_true rfl, Nat.le_of_ble_eq_true rfl⟩) hw [0, 1, 2, 3, 4] [] [0, 1, 2, 3, 4] rfl rfl rfl (by decide) rfl rfl (fun H locs hw => ?_)
          obtain ⟨rfl, rfl⟩ := tp_inj2 hm
          exact tp_vret () hx hb hr hlocks hw d_Matches_findAt_63
    · replace hm := tp_it hc2 hm
      refine lv_aload_n hx hb d_Matches_findAt_18 rfl (lv_at hl 0 rfl) ?_
      refine lv_iload_n hx hb d_Matches_findAt_19 rfl (lv_at hl 1 rfl) ?_
      refine lv_bipush (v := (8 : Int32)) hx hb d_Matches_findAt_20 (by decide +kernel) ?_
      obtain ⟨mt_len_11, mt_dist_12, hm13, hm⟩ := tp_b2_e hm
      refine tp_callv (wr := []) (WS' := [(q_mt, .inr (2, [.ref q_i, .ref q_mtb, .ref q_mtl, .int mt_from, .int mt_to, .int mt_len_11, .int mt_dist_12])), (q_i, .inr (3, [.ref q_iB, .int i_c])), (q_iB, .inl (cB, 10000, .inl i_f)), (q_mtb, .inl (cI, 10000, .inl mt_bef)), (q_mtl, .inl (cI, 2048, .inl mt_lat))]) (va_runV (As := [.int x1, .int (8 : Int32)]) (rest := []) hF (ct_Matches_findNearest (l := l) (D := D) (cB := cB) (cI := cI) (tM := tM) (q_mt := q_mt) (q_i := q_i) (q_iB := q_iB) (q_mtb := q_mtb) (q_mtl := q_mtl) (mt_from := mt_from) (mt_to := mt_to) (mt_len := mt_len) (mt_dist := mt_dist) (i_c := i_c) (i_f := i_f) (mt_bef := mt_bef) (mt_lat := mt_lat) (x1 := x1) (x2 := (8 : Int32)) (N := N) (mt_len' := mt_len_11) (mt_dist' := mt_dist_12) hm13 _) (cwV 2 hts (tpG_V wd_76 wd_77 wd_78 wd_42 wd_75) rfl rfl rfl ⟨rfl, yd_Matches_findNearest⟩ ⟨Nat.le_of_ble_eq_true rfl, Nat.le_of_ble_eq_true rfl⟩) ⟨tp_blind, va_recv hw.1 hw.2.1 (ci := 2) (q0 := 0) rfl rfl, tp_pre hw [0, 1, 2, 3, 4] rfl rfl⟩ rfl rfl hl.1 rfl (lv_room (Nat.le_of_ble_eq_true rfl)) d_Matches_findAt_22 ⟨Nat.le_of_ble_eq_true rfl, Nat.le_of_ble_eq_true rfl⟩) hw [0, 1, 2, 3, 4] [] [0, 1, 2, 3, 4] rfl rfl rfl (by decide) rfl rfl (fun H locs hw => ?_)
      refine lv_aload_n hx hb d_Matches_findAt_25 rfl (lv_at hl 0 rfl) ?_
      refine tp_get (v := .int mt_len_11) (C := R_Matches) (T := T_Matches) hx hb hts fw_Matches hown hw 0 rfl rfl 5 (by decide +kernel) (hts _ wd_56) rfl d_Matches_findAt_26 ?_
      refine lv_if_ne (tgt := 63) hx hb d_Matches_findAt_29 (by decide +kernel) (fun hc14 => ?_) (fun hc14 => ?_)
      · replace hm := tp_if hc14 hm
        obtain ⟨rfl, rfl⟩ := tp_inj2 hm
        exact tp_vret () hx hb hr hlocks hw d_Matches_findAt_63
      · replace hm := tp_it hc14 hm
        refine lv_aload_n hx hb d_Matches_findAt_32 rfl (lv_at hl 0 rfl) ?_
        refine lv_iload_n hx hb d_Matches_findAt_33 rfl (lv_at hl 1 rfl) ?_
        refine lv_iconst (v := (4 : Int32)) hx hb d_Matches_findAt_34 (by decide +kernel) ?_
        obtain ⟨mt_len_15, mt_dist_16, hm17, hm⟩ := tp_b2_e hm
        refine tp_callv (wr := []) (WS' := [(q_mt, .inr (2, [.ref q_i, .ref q_mtb, .ref q_mtl, .int mt_from, .int mt_to, .int mt_len_15, .int mt_dist_16])), (q_i, .inr (3, [.ref q_iB, .int i_c])), (q_iB, .inl (cB, 10000, .inl i_f)), (q_mtb, .inl (cI, 10000, .inl mt_bef)), (q_mtl, .inl (cI, 2048, .inl mt_lat))]) (va_runV (As := [.int x1, .int (4 : Int32)]) (rest := []) hF (ct_Matches_findNearest (l := l) (D := D) (cB := cB) (cI := cI) (tM := tM) (q_mt := q_mt) (q_i := q_i) (q_iB := q_iB) (q_mtb := q_mtb) (q_mtl := q_mtl) (mt_from := mt_from) (mt_to := mt_to) (mt_len := mt_len_11) (mt_dist := mt_dist_12) (i_c := i_c) (i_f := i_f) (mt_bef := mt_bef) (mt_lat := mt_lat) (x1 := x1) (x2 := (4 : Int32)) (N := N) (mt_len' := mt_len_15) (mt_dist' := mt_dist_16) hm17 _) (cwV 2 hts (tpG_V wd_76 wd_77 wd_78 wd_42 wd_75) rfl rfl rfl ⟨rfl, yd_Matches_findNearest⟩ ⟨Nat.le_of_ble_eq_true rfl, Nat.le_of_ble_eq_true rfl⟩) ⟨tp_blind, va_recv hw.1 hw.2.1 (ci := 2) (q0 := 0) rfl rfl, tp_pre hw [0, 1, 2, 3, 4] rfl rfl⟩ rfl rfl hl.1 rfl (lv_room (Nat.le_of_ble_eq_true rfl)) d_Matches_findAt_35 ⟨Nat.le_of_ble_eq_true rfl, Nat.le_of_ble_eq_true rfl⟩) hw [0, 1, 2, 3, 4] [] [0, 1, 2, 3, 4] rfl rfl rfl (by decide) rfl rfl (fun H locs hw => ?_)
        refine lv_goto (tgt := 63) hx hb d_Matches_findAt_38 (by decide +kernel) ?_
        obtain ⟨rfl, rfl⟩ := tp_inj2 hm
        exact tp_vret () hx hb hr hlocks hw d_Matches_findAt_63
  · replace hm := tp_it hc1 hm
    refine lv_aload_n hx hb d_Matches_findAt_4 rfl (lv_at hl 0 rfl) ?_
    refine lv_iload_n hx hb d_Matches_findAt_5 rfl (lv_at hl 1 rfl) ?_
    refine lv_iconst (v := (4 : Int32)) hx hb d_Matches_findAt_6 (by decide +kernel) ?_
    obtain ⟨mt_len_18, mt_dist_19, hm20, hm⟩ := tp_b2_e hm
    refine tp_callv (wr := []) (WS' := [(q_mt, .inr (2, [.ref q_i, .ref q_mtb, .ref q_mtl, .int mt_from, .int mt_to, .int mt_len_18, .int mt_dist_19])), (q_i, .inr (3, [.ref q_iB, .int i_c])), (q_iB, .inl (cB, 10000, .inl i_f)), (q_mtb, .inl (cI, 10000, .inl mt_bef)), (q_mtl, .inl (cI, 2048, .inl mt_lat))]) (va_runV (As := [.int x1, .int (4 : Int32)]) (rest := []) hF (ct_Matches_findNearest (l := l) (D := D) (cB := cB) (cI := cI) (tM := tM) (q_mt := q_mt) (q_i := q_i) (q_iB := q_iB) (q_mtb := q_mtb) (q_mtl := q_mtl) (mt_from := mt_from) (mt_to := mt_to) (mt_len := mt_len) (mt_dist := mt_dist) (i_c := i_c) (i_f := i_f) (mt_bef := mt_bef) (mt_lat := mt_lat) (x1 := x1) (x2 := (4 : Int32)) (N := N) (mt_len' := mt_len_18) (mt_dist' := mt_dist_19) hm20 _) (cwV 2 hts (tpG_V wd_76 wd_77 wd_78 wd_42 wd_75) rfl rfl rfl ⟨rfl, yd_Matches_findNearest⟩ ⟨Nat.le_of_ble_eq_true rfl, Nat.le_of_ble_eq_true rfl⟩) ⟨tp_blind, va_recv hw.1 hw.2.1 (ci := 2) (q0 := 0) rfl rfl, tp_pre hw [0, 1, 2, 3, 4] rfl rfl⟩ rfl rfl hl.1 rfl (lv_room (Nat.le_of_ble_eq_true rfl)) d_Matches_findAt_7 ⟨Nat.le_of_ble_eq_true rfl, Nat.le_of_ble_eq_true rfl⟩) hw [0, 1, 2, 3, 4] [] [0, 1, 2, 3, 4] rfl rfl rfl (by decide) rfl rfl (fun H locs hw => ?_)
    refine lv_goto (tgt := 63) hx hb d_Matches_findAt_10 (by decide +kernel) ?_
    obtain ⟨rfl, rfl⟩ := tp_inj2 hm
    exact tp_vret () hx hb hr hlocks hw d_Matches_findAt_63
end
