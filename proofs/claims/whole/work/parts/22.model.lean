abbrev rm_Mo_byteOf : Room := { frames := 0, cells := 0, slots := 0, locals := 0 }
abbrev ws_Mo_byteOf : List Cond := .code y_Mo_byteOf c_Mo_byteOf 2 (some .int) :: tpG
noncomputable def m_Mo_byteOf (x1 : Int32) (ji_f : Nat → Int32) : Option (Int32) :=
  tp_gd (tp_inb x1 10000) <|
  some (((ji_f (Int32.toNatClampNeg x1)) &&& (255 : Int32)))
section
variable {p : Program} {l : Launch} {e : Env} {s : State} {m : MethodId} {args : Array Value} {below : List Frame} {meth : Method} {c : Code} {A : Nat → Prop} {D : va_G} {cB cI : ClassId} {tM : Nat}
set_option maxHeartbeats 4000000 in
set_option maxRecDepth 100000 in
theorem ct_Mo_byteOf {q_j q_ji q_jo q_jm q_jn q_jf : Nat} {j_in : Int32} {j_out : Int32} {j_made : Int32} {j_known : Int32} {j_fat : Int32} {j_flong : Int32} {j_told : Int32} {j_at : Int32} {j_end : Int32} {j_fault : Int32} {j_fp : Int32} {ji_f : Nat → Int32} {jo_f : Nat → Int32} {jm_f : Nat → Int32} {jn_f : Nat → Int32} {jf_f : Nat → Int32} {x1 : Int32} {r : Int32} (hm : m_Mo_byteOf x1 ji_f = some (r)) (sz : Nat) : tp_Ci l y_Mo_byteOf ws_Mo_byteOf rm_Mo_byteOf D (tp_ty cB cI) tM [.ref q_j, .int x1] [(q_j, .inr (7, [.ref q_ji, .int j_in, .ref q_jo, .int j_out, .ref q_jm, .int j_made, .ref q_jn, .ref q_jf, .int j_known, .int j_fat, .int j_flong, .int j_told, .int j_at, .int j_end, .int j_fault, .int j_fp])), (q_ji, .inl (cB, 10000, .inl ji_f)), (q_jo, .inl (cB, 10000, .inl jo_f)), (q_jm, .inl (cB, 20000, .inl jm_f)), (q_jn, .inl (cI, 10001, .inl jn_f)), (q_jf, .inl (cI, 10001, .inl jf_f))] sz r [(q_j, .inr (7, [.ref q_ji, .int j_in, .ref q_jo, .int j_out, .ref q_jm, .int j_made, .ref q_jn, .ref q_jf, .int j_known, .int j_fat, .int j_flong, .int j_told, .int j_at, .int j_end, .int j_fault, .int j_fp])), (q_ji, .inl (cB, 10000, .inl ji_f)), (q_jo, .inl (cB, 10000, .inl jo_f)), (q_jm, .inl (cB, 20000, .inl jm_f)), (q_jn, .inl (cI, 10001, .inl jn_f)), (q_jf, .inl (cI, 10001, .inl jf_f))] := by
  refine Met.ofW (cc := c_Mo_byteOf) (maxL := 2) (ret := (some .int)) (by decide) rfl ?_
  intro p e s m args below meth c s₁ B hml hv
  obtain ⟨rfl, hv⟩ := hv
  have hw := tp_entry hv
  generalize va_A [(q_j, .inr (7, [.ref q_ji, .int j_in, .ref q_jo, .int j_out, .ref q_jm, .int j_made, .ref q_jn, .ref q_jf, .int j_known, .int j_fat, .int j_flong, .int j_told, .int j_at, .int j_end, .int j_fault, .int j_fp])), (q_ji, .inl (cB, 10000, .inl ji_f)), (q_jo, .inl (cB, 10000, .inl jo_f)), (q_jm, .inl (cB, 20000, .inl jm_f)), (q_jn, .inl (cI, 10001, .inl jn_f)), (q_jf, .inl (cI, 10001, .inl jf_f))] sz = A at hw ⊢
  have hx := B.exec
  have hb := B.bytes
  have hr := B.returns
  have hts0 := atoms_spec (ws := ws_Mo_byteOf) B.pre
  have hts := fun w h => hts0 w (List.mem_cons_of_mem _ h)
  have hown : s.vm.findClass R_Mo = some m.cls := findClass_of_methodNamed B.named
  have hlocks := B.notSynchronized
  have hF : CallFix p m c c_Mo_byteOf 2 s _ tpG R_Mo := ⟨hx, hb, hml, hown, hts⟩
  have hF2 : tp_F p m c c_Mo_byteOf 2 s _ tpG R_Mo meth (some .int) := ⟨hF, hr, hlocks⟩
  have hl := lv_entry ([.ref q_j, .int x1]) (n := 2) (Nat.le_of_ble_eq_true rfl)
  rw [lg_entry_eq]
  generalize (lg_sl ([.ref q_j, .int x1]) ++ List.replicate (2 - (lg_sl ([.ref q_j, .int x1])).length) Slot.unset).toArray = ls at hl ⊢
  replace hl : lv_has ls 2 [(0, .ref q_j), (1, .int x1)] := hl
  unfold m_Mo_byteOf at hm
  refine lv_aload_n hx hb d_Mo_byteOf_0 rfl (lv_at hl 0 rfl) ?_
  refine tp_get (v := .ref q_ji) (C := R_Mo) (T := T_Mo) hx hb hts fw_Mo hown hw 0 rfl rfl 0 (by decide +kernel) (hts _ wd_333) rfl d_Mo_byteOf_1 ?_
  refine lv_iload_n hx hb d_Mo_byteOf_4 rfl (lv_at hl 1 rfl) ?_
  obtain ⟨hi1, hm⟩ := tp_gd_e hm
  refine tp_bald hx hb hw 1 0 rfl rfl hi1 d_Mo_byteOf_5 ?_
  refine lv_sipush (v := (255 : Int32)) hx hb d_Mo_byteOf_6 (by decide +kernel) ?_
  refine lv_iand hx hb d_Mo_byteOf_9 ?_
  obtain rfl := tp_inj1 hm
  exact tp_iret hx hb hr hlocks hw d_Mo_byteOf_10
end
abbrev rm_Mo_orderly : Room := { frames := 1, cells := 0, slots := 0, locals := 22 }
abbrev ws_Mo_orderly : List Cond := .code y_Mo_orderly c_Mo_orderly 6 (some .boolean) :: tpG
noncomputable def m_Mo_orderly_188 (N : Nat) (j_in : Int32) (ji_f : Nat → Int32) (x1 : Int32) (x4 : Int32) (j_end : Int32) (j_fault : Int32) (j_fp : Int32) : Option (Int32 × Int32 × Int32 × Int32) :=
  if x4 = 0 then
    tp_b3 (m_Mo_fails (8 : Int32) x1 j_fault j_fp) fun r55 j_fault_56 j_fp_57 =>
    if r55 = 0 then
      some ((0 : Int32), j_end, j_fault_56, j_fp_57)
    else
      some ((1 : Int32), j_end, j_fault_56, j_fp_57)
  else
    some ((1 : Int32), j_end, j_fault, j_fp)
noncomputable def m_Mo_orderly_145 (N : Nat) (j_in : Int32) (ji_f : Nat → Int32) (rec145 : Int32 → Int32 → Int32 → Int32 → Int32 → Int32 → Option (Int32 × Int32 × Int32 × Int32)) (x1 : Int32) (x4 : Int32) (x5 : Int32) (j_end : Int32) (j_fault : Int32) (j_fp : Int32) : Option (Int32 × Int32 × Int32 × Int32) :=
  if (6 : Int32) ≤ x5 then
    m_Mo_orderly_188 N j_in ji_f  x1 x4 j_end j_fault j_fp
  else
    if x4 = 0 then
      m_Mo_orderly_188 N j_in ji_f  x1 x4 j_end j_fault j_fp
    else
      tp_b1 (m_Mo_byteOf ((x1 + (4 : Int32)) + x5) ji_f) fun r43 =>
      tp_b1 (m_Mo_mark x5) fun r45 =>
      if r43 = r45 then
        rec145 x1 (1 : Int32) (x5 + (1 : Int32)) j_end j_fault j_fp
      else
        rec145 x1 (0 : Int32) (x5 + (1 : Int32)) j_end j_fault j_fp
noncomputable def m_Mo_orderly_235 (N : Nat) (j_in : Int32) (ji_f : Nat → Int32) (x1 : Int32) (k0 : Int32) (j_end : Int32) (j_fault : Int32) (j_fp : Int32) : Option (Int32 × Int32 × Int32 × Int32) :=
  if k0 = 0 then
    some ((1 : Int32), j_end, j_fault, j_fp)
  else
    tp_b3 (m_Mo_fails (10 : Int32) x1 j_fault j_fp) fun r49 j_fault_50 j_fp_51 =>
    if r49 = 0 then
      some ((0 : Int32), j_end, j_fault_50, j_fp_51)
    else
      some ((1 : Int32), j_end, j_fault_50, j_fp_51)
noncomputable def m_Mo_orderly_234 (N : Nat) (j_in : Int32) (ji_f : Nat → Int32) (x1 : Int32) (j_end : Int32) (j_fault : Int32) (j_fp : Int32) : Option (Int32 × Int32 × Int32 × Int32) :=
  m_Mo_orderly_235 N j_in ji_f  x1 (0 : Int32) j_end j_fault j_fp
noncomputable def m_Mo_orderly_230 (N : Nat) (j_in : Int32) (ji_f : Nat → Int32) (x1 : Int32) (j_end : Int32) (j_fault : Int32) (j_fp : Int32) : Option (Int32 × Int32 × Int32 × Int32) :=
  m_Mo_orderly_235 N j_in ji_f  x1 (1 : Int32) j_end j_fault j_fp
noncomputable def m_Mo_orderly_219 (N : Nat) (j_in : Int32) (ji_f : Nat → Int32) (x1 : Int32) (x2 : Int32) (x3 : Int32) (j_end : Int32) (j_fault : Int32) (j_fp : Int32) : Option (Int32 × Int32 × Int32 × Int32) :=
  if x2 = (1 : Int32) then
    if x3 ≤ (65540 : Int32) then
      m_Mo_orderly_234 N j_in ji_f  x1 j_end j_fault j_fp
    else
      m_Mo_orderly_230 N j_in ji_f  x1 j_end j_fault j_fp
  else
    m_Mo_orderly_234 N j_in ji_f  x1 j_end j_fault j_fp
noncomputable def m_Mo_orderly_38 (N : Nat) (j_in : Int32) (ji_f : Nat → Int32) (x1 : Int32) (x2 : Int32) (j_end : Int32) (j_fault : Int32) (j_fp : Int32) : Option (Int32 × Int32 × Int32 × Int32) :=
  if (x1 + (4 : Int32)) ≤ j_in then
    tp_b1 (m_Mo_byteOf (x1 + (1 : Int32)) ji_f) fun r16 =>
    tp_b1 (m_Mo_byteOf (x1 + (2 : Int32)) ji_f) fun r18 =>
    tp_b1 (m_Mo_byteOf (x1 + (3 : Int32)) ji_f) fun r20 =>
    tp_b0 ((r16 + ((256 : Int32) * r18)) + ((65536 : Int32) * r20)) fun y22 =>
    if ((x1 + (4 : Int32)) + y22) ≤ j_in then
      tp_b0 ((x1 + (4 : Int32)) + y22) fun y24 =>
      if x2 = (255 : Int32) then
        if y22 = (6 : Int32) then
          tp_it6 (m_Mo_orderly_145 N j_in ji_f ) N x1 (1 : Int32) (0 : Int32) y24 j_fault j_fp
        else
          tp_it6 (m_Mo_orderly_145 N j_in ji_f ) N x1 (0 : Int32) (0 : Int32) y24 j_fault j_fp
      else
        if (1 : Int32) < x2 then
          m_Mo_orderly_219 N j_in ji_f  x1 x2 y22 y24 j_fault j_fp
        else
          if y22 < (4 : Int32) then
            m_Mo_orderly_230 N j_in ji_f  x1 y24 j_fault j_fp
          else
            m_Mo_orderly_219 N j_in ji_f  x1 x2 y22 y24 j_fault j_fp
    else
      tp_b3 (m_Mo_fails (7 : Int32) j_in j_fault j_fp) fun r29 j_fault_30 j_fp_31 =>
      tp_gd (decide (vp_nar .boolean r29 = r29)) <|
      some (r29, j_end, j_fault_30, j_fp_31)
  else
    tp_b3 (m_Mo_fails (7 : Int32) j_in j_fault j_fp) fun r34 j_fault_35 j_fp_36 =>
    tp_gd (decide (vp_nar .boolean r34 = r34)) <|
    some (r34, j_end, j_fault_35, j_fp_36)
noncomputable def m_Mo_orderly_19 (N : Nat) (j_in : Int32) (ji_f : Nat → Int32) (x1 : Int32) (x2 : Int32) (j_end : Int32) (j_fault : Int32) (j_fp : Int32) : Option (Int32 × Int32 × Int32 × Int32) :=
  if x2 < (2 : Int32) then
    m_Mo_orderly_38 N j_in ji_f  x1 x2 j_end j_fault j_fp
  else
    if (127 : Int32) < x2 then
      m_Mo_orderly_38 N j_in ji_f  x1 x2 j_end j_fault j_fp
    else
      tp_b3 (m_Mo_fails (9 : Int32) x1 j_fault j_fp) fun r10 j_fault_11 j_fp_12 =>
      tp_gd (decide (vp_nar .boolean r10 = r10)) <|
      some (r10, j_end, j_fault_11, j_fp_12)
noncomputable def m_Mo_orderly (N : Nat) (x1 : Int32) (x2 : Int32) (j_in : Int32) (j_end : Int32) (j_fault : Int32) (j_fp : Int32) (ji_f : Nat → Int32) : Option (Int32 × Int32 × Int32 × Int32) :=
  if x1 = 0 then
    if x2 = (255 : Int32) then
      m_Mo_orderly_19 N j_in ji_f  x1 x2 j_end j_fault j_fp
    else
      tp_b3 (m_Mo_fails (8 : Int32) x1 j_fault j_fp) fun r3 j_fault_4 j_fp_5 =>
      tp_gd (decide (vp_nar .boolean r3 = r3)) <|
      some (r3, j_end, j_fault_4, j_fp_5)
  else
    m_Mo_orderly_19 N j_in ji_f  x1 x2 j_end j_fault j_fp
section
variable {p : Program} {l : Launch} {e : Env} {s : State} {m : MethodId} {args : Array Value} {below : List Frame} {meth : Method} {c : Code} {A : Nat → Prop} {D : va_G} {cB cI : ClassId} {tM : Nat}
set_option maxHeartbeats 4000000 in
set_option maxRecDepth 100000 in
theorem w_Mo_orderly_188 {q_j q_ji q_jo q_jm q_jn q_jf : Nat} {j_in : Int32} {j_out : Int32} {j_made : Int32} {j_known : Int32} {j_fat : Int32} {j_flong : Int32} {j_told : Int32} {j_at : Int32} {ji_f : Nat → Int32} {jo_f : Nat → Int32} {jm_f : Nat → Int32} {jn_f : Nat → Int32} {jf_f : Nat → Int32} {N : Nat} {r : Int32} {j_end' : Int32} {j_fault' : Int32} {j_fp' : Int32} (hF2 : tp_F p m c c_Mo_orderly 6 s args tpG R_Mo meth (some .boolean)) : ∀ (x1 : Int32) (x4 : Int32) (j_end : Int32) (j_fault : Int32) (j_fp : Int32) (H : Heap) (locs : List Loc) (ls : Array Slot), m_Mo_orderly_188 N j_in ji_f  x1 x4 j_end j_fault j_fp = some (r, j_end', j_fault', j_fp') → tp_Wd D (tp_ty cB cI) tM A s H locs [(q_j, .inr (7, [.ref q_ji, .int j_in, .ref q_jo, .int j_out, .ref q_jm, .int j_made, .ref q_jn, .ref q_jf, .int j_known, .int j_fat, .int j_flong, .int j_told, .int j_at, .int j_end, .int j_fault, .int j_fp])), (q_ji, .inl (cB, 10000, .inl ji_f)), (q_jo, .inl (cB, 10000, .inl jo_f)), (q_jm, .inl (cB, 20000, .inl jm_f)), (q_jn, .inl (cI, 10001, .inl jn_f)), (q_jf, .inl (cI, 10001, .inl jf_f))] → lv_has ls 6 [(0, .ref q_j), (1, .int x1), (4, .int x4)] → W p l e rm_Mo_orderly s m args below meth c H locs 0 0 (MQ below (tp_Qi D A r [(q_j, .inr (7, [.ref q_ji, .int j_in, .ref q_jo, .int j_out, .ref q_jm, .int j_made, .ref q_jn, .ref q_jf, .int j_known, .int j_fat, .int j_flong, .int j_told, .int j_at, .int j_end', .int j_fault', .int j_fp'])), (q_ji, .inl (cB, 10000, .inl ji_f)), (q_jo, .inl (cB, 10000, .inl jo_f)), (q_jm, .inl (cB, 20000, .inl jm_f)), (q_jn, .inl (cI, 10001, .inl jn_f)), (q_jf, .inl (cI, 10001, .inl jf_f))]) args s 0 0 A) (F0 m 188 ls []) := by
  obtain ⟨hF, hr, hlocks⟩ := id hF2
  obtain ⟨hx, hb, hml, hown, hts⟩ := id hF
  intro x1 x4 j_end j_fault j_fp H locs ls hm hw hl
  unfold m_Mo_orderly_188 at hm
  refine lv_iload hx hb d_Mo_orderly_188 (lv_at hl 2 rfl) ?_
  refine lv_if_ne (tgt := 203) hx hb d_Mo_orderly_190 (by decide +kernel) (fun hc54 => ?_) (fun hc54 => ?_)
  · replace hm := tp_if hc54 hm
    refine lv_iconst (v := (1 : Int32)) hx hb d_Mo_orderly_203 (by decide +kernel) ?_
    refine lv_goto (tgt := 208) hx hb d_Mo_orderly_204 (by decide +kernel) ?_
    obtain ⟨rfl, rfl, rfl, rfl⟩ := tp_inj4 hm
    exact tp_zret hx hb hr hlocks rfl hw d_Mo_orderly_208
  · replace hm := tp_it hc54 hm
    refine lv_aload_n hx hb d_Mo_orderly_193 rfl (lv_at hl 0 rfl) ?_
    refine lv_bipush (v := (8 : Int32)) hx hb d_Mo_orderly_194 (by decide +kernel) ?_
    refine lv_iload_n hx hb d_Mo_orderly_196 rfl (lv_at hl 1 rfl) ?_
    obtain ⟨r55, j_fault_56, j_fp_57, hm58, hm⟩ := tp_b3_e hm
    refine tp_calli (wr := []) (WS' := [(q_j, .inr (7, [.ref q_ji, .int j_in, .ref q_jo, .int j_out, .ref q_jm, .int j_made, .ref q_jn, .ref q_jf, .int j_known, .int j_fat, .int j_flong, .int j_told, .int j_at, .int j_end, .int j_fault_56, .int j_fp_57])), (q_ji, .inl (cB, 10000, .inl ji_f)), (q_jo, .inl (cB, 10000, .inl jo_f)), (q_jm, .inl (cB, 20000, .inl jm_f)), (q_jn, .inl (cI, 10001, .inl jn_f)), (q_jf, .inl (cI, 10001, .inl jf_f))]) (va_runV (As := [.int (8 : Int32), .int x1]) (rest := []) hF (ct_Mo_fails (l := l) (D := D) (cB := cB) (cI := cI) (tM := tM) (q_j := q_j) (q_ji := q_ji) (q_jo := q_jo) (q_jm := q_jm) (q_jn := q_jn) (q_jf := q_jf) (j_in := j_in) (j_out := j_out) (j_made := j_made) (j_known := j_known) (j_fat := j_fat) (j_flong := j_flong) (j_told := j_told) (j_at := j_at) (j_end := j_end) (j_fault := j_fault) (j_fp := j_fp) (ji_f := ji_f) (jo_f := jo_f) (jm_f := jm_f) (jn_f := jn_f) (jf_f := jf_f) (x1 := (8 : Int32)) (x2 := x1) (r := r55) (j_fault' := j_fault_56) (j_fp' := j_fp_57) hm58 _) (cwV 2 hts (tpG_V wd_409 wd_410 wd_411 wd_340 wd_408) rfl rfl rfl ⟨rfl, yd_Mo_fails⟩ ⟨Nat.le_of_ble_eq_true rfl, Nat.le_of_ble_eq_true rfl⟩) ⟨tp_blind, va_recv hw.1 hw.2.1 (ci := 7) (q0 := 0) rfl rfl, tp_pre hw [0, 1, 2, 3, 4, 5] rfl rfl⟩ rfl rfl hl.1 rfl (lv_room (Nat.le_of_ble_eq_true rfl)) d_Mo_orderly_197 ⟨Nat.le_of_ble_eq_true rfl, Nat.le_of_ble_eq_true rfl⟩) hw [0, 1, 2, 3, 4, 5] [] [0, 1, 2, 3, 4, 5] rfl rfl rfl (by decide) rfl rfl (fun H locs hw => ?_)
    refine lv_if_eq (tgt := 207) hx hb d_Mo_orderly_200 (by decide +kernel) (fun hc59 => ?_) (fun hc59 => ?_)
    · replace hm := tp_it hc59 hm
      refine lv_iconst (v := (0 : Int32)) hx hb d_Mo_orderly_207 (by decide +kernel) ?_
      obtain ⟨rfl, rfl, rfl, rfl⟩ := tp_inj4 hm
      exact tp_zret hx hb hr hlocks rfl hw d_Mo_orderly_208
    · replace hm := tp_if hc59 hm
      refine lv_iconst (v := (1 : Int32)) hx hb d_Mo_orderly_203 (by decide +kernel) ?_
      refine lv_goto (tgt := 208) hx hb d_Mo_orderly_204 (by decide +kernel) ?_
      obtain ⟨rfl, rfl, rfl, rfl⟩ := tp_inj4 hm
      exact tp_zret hx hb hr hlocks rfl hw d_Mo_orderly_208
set_option maxHeartbeats 4000000 in
set_option maxRecDepth 100000 in
theorem w_Mo_orderly_145 {q_j q_ji q_jo q_jm q_jn q_jf : Nat} {j_in : Int32} {j_out : Int32} {j_made : Int32} {j_known : Int32} {j_fat : Int32} {j_flong : Int32} {j_told : Int32} {j_at : Int32} {ji_f : Nat → Int32} {jo_f : Nat → Int32} {jm_f : Nat → Int32} {jn_f : Nat → Int32} {jf_f : Nat → Int32} {N : Nat} {r : Int32} {j_end' : Int32} {j_fault' : Int32} {j_fp' : Int32} (hF2 : tp_F p m c c_Mo_orderly 6 s args tpG R_Mo meth (some .boolean)) : ∀ (n : Nat), ∀ (x1 : Int32) (x4 : Int32) (x5 : Int32) (j_end : Int32) (j_fault : Int32) (j_fp : Int32) (H : Heap) (locs : List Loc) (ls : Array Slot), tp_it6 (m_Mo_orderly_145 N j_in ji_f ) n x1 x4 x5 j_end j_fault j_fp = some (r, j_end', j_fault', j_fp') → tp_Wd D (tp_ty cB cI) tM A s H locs [(q_j, .inr (7, [.ref q_ji, .int j_in, .ref q_jo, .int j_out, .ref q_jm, .int j_made, .ref q_jn, .ref q_jf, .int j_known, .int j_fat, .int j_flong, .int j_told, .int j_at, .int j_end, .int j_fault, .int j_fp])), (q_ji, .inl (cB, 10000, .inl ji_f)), (q_jo, .inl (cB, 10000, .inl jo_f)), (q_jm, .inl (cB, 20000, .inl jm_f)), (q_jn, .inl (cI, 10001, .inl jn_f)), (q_jf, .inl (cI, 10001, .inl jf_f))] → lv_has ls 6 [(0, .ref q_j), (1, .int x1), (4, .int x4), (5, .int x5)] → W p l e rm_Mo_orderly s m args below meth c H locs 0 0 (MQ below (tp_Qi D A r [(q_j, .inr (7, [.ref q_ji, .int j_in, .ref q_jo, .int j_out, .ref q_jm, .int j_made, .ref q_jn, .ref q_jf, .int j_known, .int j_fat, .int j_flong, .int j_told, .int j_at, .int j_end', .int j_fault', .int j_fp'])), (q_ji, .inl (cB, 10000, .inl ji_f)), (q_jo, .inl (cB, 10000, .inl jo_f)), (q_jm, .inl (cB, 20000, .inl jm_f)), (q_jn, .inl (cI, 10001, .inl jn_f)), (q_jf, .inl (cI, 10001, .inl jf_f))]) args s 0 0 A) (F0 m 145 ls []) := by
  obtain ⟨hF, hr, hlocks⟩ := id hF2
  obtain ⟨hx, hb, hml, hown, hts⟩ := id hF
  intro n
  induction n with
  | zero => intro x1 x4 x5 j_end j_fault j_fp H locs ls hm; exact absurd hm (by simp [tp_it6])
  | succ n ih145 =>
    intro x1 x4 x5 j_end j_fault j_fp H locs ls hm hw hl
    replace hm : m_Mo_orderly_145 N j_in ji_f  (tp_it6 (m_Mo_orderly_145 N j_in ji_f ) n) x1 x4 x5 j_end j_fault j_fp = some (r, j_end', j_fault', j_fp') := hm
    unfold m_Mo_orderly_145 at hm
    refine lv_iload hx hb d_Mo_orderly_145 (lv_at hl 3 rfl) ?_
    refine lv_bipush (v := (6 : Int32)) hx hb d_Mo_orderly_147 (by decide +kernel) ?_
    refine lv_icmp_ge (tgt := 188) hx hb d_Mo_orderly_149 (by decide +kernel) (fun hc41 => ?_) (fun hc41 => ?_)
    · replace hm := tp_it hc41 hm
      exact w_Mo_orderly_188 hF2  _ _ _ _ _ _ _ _ hm hw (lv_sub hl [0, 1, 2] rfl)
    · replace hm := tp_if hc41 hm
      refine lv_iload hx hb d_Mo_orderly_152 (lv_at hl 2 rfl) ?_
      refine lv_if_eq (tgt := 188) hx hb d_Mo_orderly_154 (by decide +kernel) (fun hc42 => ?_) (fun hc42 => ?_)
      · replace hm := tp_it hc42 hm
        exact w_Mo_orderly_188 hF2  _ _ _ _ _ _ _ _ hm hw (lv_sub hl [0, 1, 2] rfl)
      · replace hm := tp_if hc42 hm
        refine lv_aload_n hx hb d_Mo_orderly_157 rfl (lv_at hl 0 rfl) ?_
        refine lv_iload_n hx hb d_Mo_orderly_158 rfl (lv_at hl 1 rfl) ?_
        refine lv_iconst (v := (4 : Int32)) hx hb d_Mo_orderly_159 (by decide +kernel) ?_
        refine lv_iadd hx hb d_Mo_orderly_160 ?_
        refine lv_iload hx hb d_Mo_orderly_161 (lv_at hl 3 rfl) ?_
        refine lv_iadd hx hb d_Mo_orderly_163 ?_
        obtain ⟨r43, hm44, hm⟩ := tp_b1_e hm
        refine tp_calli (wr := []) (WS' := [(q_j, .inr (7, [.ref q_ji, .int j_in, .ref q_jo, .int j_out, .ref q_jm, .int j_made, .ref q_jn, .ref q_jf, .int j_known, .int j_fat, .int j_flong, .int j_told, .int j_at, .int j_end, .int j_fault, .int j_fp])), (q_ji, .inl (cB, 10000, .inl ji_f)), (q_jo, .inl (cB, 10000, .inl jo_f)), (q_jm, .inl (cB, 20000, .inl jm_f)), (q_jn, .inl (cI, 10001, .inl jn_f)), (q_jf, .inl (cI, 10001, .inl jf_f))]) (va_runV (As := [.int ((x1 + (4 : Int32)) + x5)]) (rest := []) hF (ct_Mo_byteOf (l := l) (D := D) (cB := cB) (cI := cI) (tM := tM) (q_j := q_j) (q_ji := q_ji) (q_jo := q_jo) (q_jm := q_jm) (q_jn := q_jn) (q_jf := q_jf) (j_in := j_in) (j_out := j_out) (j_made := j_made) (j_known := j_known) (j_fat := j_fat) (j_flong := j_flong) (j_told := j_told) (j_at := j_at) (j_end := j_end) (j_fault := j_fault) (j_fp := j_fp) (ji_f := ji_f) (jo_f := jo_f) (jm_f := jm_f) (jn_f := jn_f) (jf_f := jf_f) (x1 := ((x1 + (4 : Int32)) + x5)) (r := r43) hm44 _) (cwV 1 hts (tpG_V wd_462 wd_463 wd_464 wd_340 wd_461) rfl rfl rfl ⟨rfl, yd_Mo_byteOf⟩ ⟨Nat.le_of_ble_eq_true rfl, Nat.le_of_ble_eq_true rfl⟩) ⟨tp_blind, va_recv hw.1 hw.2.1 (ci := 7) (q0 := 0) rfl rfl, tp_pre hw [0, 1, 2, 3, 4, 5] rfl rfl⟩ rfl rfl hl.1 rfl (lv_room (Nat.le_of_ble_eq_true rfl)) d_Mo_orderly_164 ⟨Nat.le_of_ble_eq_true rfl, Nat.le_of_ble_eq_true rfl⟩) hw [0, 1, 2, 3, 4, 5] [] [0, 1, 2, 3, 4, 5] rfl rfl rfl (by decide) rfl rfl (fun H locs hw => ?_)
        refine lv_iload hx hb d_Mo_orderly_167 (lv_at hl 3 rfl) ?_
        obtain ⟨r45, hm46, hm⟩ := tp_b1_e hm
        refine tp_calli (wr := [(q_j, .inr (7, [.ref q_ji, .int j_in, .ref q_jo, .int j_out, .ref q_jm, .int j_made, .ref q_jn, .ref q_jf, .int j_known, .int j_fat, .int j_flong, .int j_told, .int j_at, .int j_end, .int j_fault, .int j_fp])), (q_ji, .inl (cB, 10000, .inl ji_f)), (q_jo, .inl (cB, 10000, .inl jo_f)), (q_jm, .inl (cB, 20000, .inl jm_f)), (q_jn, .inl (cI, 10001, .inl jn_f)), (q_jf, .inl (cI, 10001, .inl jf_f))]) (WS' := [(q_j, .inr (7, [.ref q_ji, .int j_in, .ref q_jo, .int j_out, .ref q_jm, .int j_made, .ref q_jn, .ref q_jf, .int j_known, .int j_fat, .int j_flong, .int j_told, .int j_at, .int j_end, .int j_fault, .int j_fp])), (q_ji, .inl (cB, 10000, .inl ji_f)), (q_jo, .inl (cB, 10000, .inl jo_f)), (q_jm, .inl (cB, 20000, .inl jm_f)), (q_jn, .inl (cI, 10001, .inl jn_f)), (q_jf, .inl (cI, 10001, .inl jf_f))]) (va_runS (As := [.int x5]) (rest := [.int r43]) hF (ct_Mo_mark (l := l) (D := D) (cB := cB) (cI := cI) (tM := tM) (x0 := x5) (r := r45) hm46 _) (va_cwS 1 hts (tpG_S wd_455 wd_456 wd_340 wd_454) rfl rfl rfl yd_Mo_mark ⟨Nat.le_of_ble_eq_true rfl, Nat.le_of_ble_eq_true rfl⟩) ⟨tp_blind, tp_pre hw [] rfl rfl⟩ rfl rfl hl.1 rfl (lv_room (Nat.le_of_ble_eq_true rfl)) d_Mo_orderly_169 ⟨Nat.le_of_ble_eq_true rfl, Nat.le_of_ble_eq_true rfl⟩) hw [] [0, 1, 2, 3, 4, 5] [0, 1, 2, 3, 4, 5] rfl rfl rfl (by decide) rfl rfl (fun H locs hw => ?_)
        refine lv_icmp_ne (tgt := 179) hx hb d_Mo_orderly_172 (by decide +kernel) (fun hc47 => ?_) (fun hc47 => ?_)
        · replace hm := tp_if hc47 hm
          refine lv_iconst (v := (0 : Int32)) hx hb d_Mo_orderly_179 (by decide +kernel) ?_
          refine lv_istore (lv' := [(4, .int (0 : Int32)), (0, .ref q_j), (1, .int x1), (5, .int x5)]) hx hb d_Mo_orderly_180 hl (by decide +kernel) rfl (fun ls hl => ?_)
          refine lv_iinc (v := (x5 + (1 : Int32))) (lv' := [(5, .int (x5 + (1 : Int32))), (4, .int (0 : Int32)), (0, .ref q_j), (1, .int x1)]) hx hb d_Mo_orderly_182 hl (k := 3) rfl rfl (by decide +kernel) rfl (fun ls hl => ?_)
          refine lv_goto (tgt := 145) hx hb d_Mo_orderly_185 (by decide +kernel) ?_
          exact ih145 _ _ _ _ _ _ _ _ _ hm hw (lv_sub hl [2, 3, 1, 0] rfl)
        · replace hm := tp_it hc47 hm
          refine lv_iconst (v := (1 : Int32)) hx hb d_Mo_orderly_175 (by decide +kernel) ?_
          refine lv_goto (tgt := 180) hx hb d_Mo_orderly_176 (by decide +kernel) ?_
          refine lv_istore (lv' := [(4, .int (1 : Int32)), (0, .ref q_j), (1, .int x1), (5, .int x5)]) hx hb d_Mo_orderly_180 hl (by decide +kernel) rfl (fun ls hl => ?_)
          refine lv_iinc (v := (x5 + (1 : Int32))) (lv' := [(5, .int (x5 + (1 : Int32))), (4, .int (1 : Int32)), (0, .ref q_j), (1, .int x1)]) hx hb d_Mo_orderly_182 hl (k := 3) rfl rfl (by decide +kernel) rfl (fun ls hl => ?_)
          refine lv_goto (tgt := 145) hx hb d_Mo_orderly_185 (by decide +kernel) ?_
          exact ih145 _ _ _ _ _ _ _ _ _ hm hw (lv_sub hl [2, 3, 1, 0] rfl)
set_option maxHeartbeats 4000000 in
set_option maxRecDepth 100000 in
theorem w_Mo_orderly_235 {q_j q_ji q_jo q_jm q_jn q_jf : Nat} {j_in : Int32} {j_out : Int32} {j_made : Int32} {j_known : Int32} {j_fat : Int32} {j_flong : Int32} {j_told : Int32} {j_at : Int32} {ji_f : Nat → Int32} {jo_f : Nat → Int32} {jm_f : Nat → Int32} {jn_f : Nat → Int32} {jf_f : Nat → Int32} {N : Nat} {r : Int32} {j_end' : Int32} {j_fault' : Int32} {j_fp' : Int32} (hF2 : tp_F p m c c_Mo_orderly 6 s args tpG R_Mo meth (some .boolean)) : ∀ (x1 : Int32) (k0 : Int32) (j_end : Int32) (j_fault : Int32) (j_fp : Int32) (H : Heap) (locs : List Loc) (ls : Array Slot), m_Mo_orderly_235 N j_in ji_f  x1 k0 j_end j_fault j_fp = some (r, j_end', j_fault', j_fp') → tp_Wd D (tp_ty cB cI) tM A s H locs [(q_j, .inr (7, [.ref q_ji, .int j_in, .ref q_jo, .int j_out, .ref q_jm, .int j_made, .ref q_jn, .ref q_jf, .int j_known, .int j_fat, .int j_flong, .int j_told, .int j_at, .int j_end, .int j_fault, .int j_fp])), (q_ji, .inl (cB, 10000, .inl ji_f)), (q_jo, .inl (cB, 10000, .inl jo_f)), (q_jm, .inl (cB, 20000, .inl jm_f)), (q_jn, .inl (cI, 10001, .inl jn_f)), (q_jf, .inl (cI, 10001, .inl jf_f))] → lv_has ls 6 [(0, .ref q_j), (1, .int x1)] → W p l e rm_Mo_orderly s m args below meth c H locs 0 0 (MQ below (tp_Qi D A r [(q_j, .inr (7, [.ref q_ji, .int j_in, .ref q_jo, .int j_out, .ref q_jm, .int j_made, .ref q_jn, .ref q_jf, .int j_known, .int j_fat, .int j_flong, .int j_told, .int j_at, .int j_end', .int j_fault', .int j_fp'])), (q_ji, .inl (cB, 10000, .inl ji_f)), (q_jo, .inl (cB, 10000, .inl jo_f)), (q_jm, .inl (cB, 20000, .inl jm_f)), (q_jn, .inl (cI, 10001, .inl jn_f)), (q_jf, .inl (cI, 10001, .inl jf_f))]) args s 0 0 A) (F0 m 235 ls [.int k0]) := by
  obtain ⟨hF, hr, hlocks⟩ := id hF2
  obtain ⟨hx, hb, hml, hown, hts⟩ := id hF
  intro x1 k0 j_end j_fault j_fp H locs ls hm hw hl
  unfold m_Mo_orderly_235 at hm
  refine lv_istore (lv' := [(4, .int k0), (0, .ref q_j), (1, .int x1)]) hx hb d_Mo_orderly_235 hl (by decide +kernel) rfl (fun ls hl => ?_)
  refine lv_iload hx hb d_Mo_orderly_237 (lv_at hl 0 rfl) ?_
  refine lv_if_eq (tgt := 252) hx hb d_Mo_orderly_239 (by decide +kernel) (fun hc48 => ?_) (fun hc48 => ?_)
  · replace hm := tp_it hc48 hm
    refine lv_iconst (v := (1 : Int32)) hx hb d_Mo_orderly_252 (by decide +kernel) ?_
    refine lv_goto (tgt := 257) hx hb d_Mo_orderly_253 (by decide +kernel) ?_
    obtain ⟨rfl, rfl, rfl, rfl⟩ := tp_inj4 hm
    exact tp_zret hx hb hr hlocks rfl hw d_Mo_orderly_257
  · replace hm := tp_if hc48 hm
    refine lv_aload_n hx hb d_Mo_orderly_242 rfl (lv_at hl 1 rfl) ?_
    refine lv_bipush (v := (10 : Int32)) hx hb d_Mo_orderly_243 (by decide +kernel) ?_
    refine lv_iload_n hx hb d_Mo_orderly_245 rfl (lv_at hl 2 rfl) ?_
    obtain ⟨r49, j_fault_50, j_fp_51, hm52, hm⟩ := tp_b3_e hm
    refine tp_calli (wr := []) (WS' := [(q_j, .inr (7, [.ref q_ji, .int j_in, .ref q_jo, .int j_out, .ref q_jm, .int j_made, .ref q_jn, .ref q_jf, .int j_known, .int j_fat, .int j_flong, .int j_told, .int j_at, .int j_end, .int j_fault_50, .int j_fp_51])), (q_ji, .inl (cB, 10000, .inl ji_f)), (q_jo, .inl (cB, 10000, .inl jo_f)), (q_jm, .inl (cB, 20000, .inl jm_f)), (q_jn, .inl (cI, 10001, .inl jn_f)), (q_jf, .inl (cI, 10001, .inl jf_f))]) (va_runV (As := [.int (10 : Int32), .int x1]) (rest := []) hF (ct_Mo_fails (l := l) (D := D) (cB := cB) (cI := cI) (tM := tM) (q_j := q_j) (q_ji := q_ji) (q_jo := q_jo) (q_jm := q_jm) (q_jn := q_jn) (q_jf := q_jf) (j_in := j_in) (j_out := j_out) (j_made := j_made) (j_known := j_known) (j_fat := j_fat) (j_flong := j_flong) (j_told := j_told) (j_at := j_at) (j_end := j_end) (j_fault := j_fault) (j_fp := j_fp) (ji_f := ji_f) (jo_f := jo_f) (jm_f := jm_f) (jn_f := jn_f) (jf_f := jf_f) (x1 := (10 : Int32)) (x2 := x1) (r := r49) (j_fault' := j_fault_50) (j_fp' := j_fp_51) hm52 _) (cwV 2 hts (tpG_V wd_409 wd_410 wd_411 wd_340 wd_408) rfl rfl rfl ⟨rfl, yd_Mo_fails⟩ ⟨Nat.le_of_ble_eq_true rfl, Nat.le_of_ble_eq_true rfl⟩) ⟨tp_blind, va_recv hw.1 hw.2.1 (ci := 7) (q0 := 0) rfl rfl, tp_pre hw [0, 1, 2, 3, 4, 5] rfl rfl⟩ rfl rfl hl.1 rfl (lv_room (Nat.le_of_ble_eq_true rfl)) d_Mo_orderly_246 ⟨Nat.le_of_ble_eq_true rfl, Nat.le_of_ble_eq_true rfl⟩) hw [0, 1, 2, 3, 4, 5] [] [0, 1, 2, 3, 4, 5] rfl rfl rfl (by decide) rfl rfl (fun H locs hw => ?_)
    refine lv_if_eq (tgt := 256) hx hb d_Mo_orderly_249 (by decide +kernel) (fun hc53 => ?_) (fun hc53 => ?_)
    · replace hm := tp_it hc53 hm
      refine lv_iconst (v := (0 : Int32)) hx hb d_Mo_orderly_256 (by decide +kernel) ?_
      obtain ⟨rfl, rfl, rfl, rfl⟩ := tp_inj4 hm
      exact tp_zret hx hb hr hlocks rfl hw d_Mo_orderly_257
    · replace hm := tp_if hc53 hm
      refine lv_iconst (v := (1 : Int32)) hx hb d_Mo_orderly_252 (by decide +kernel) ?_
      refine lv_goto (tgt := 257) hx hb d_Mo_orderly_253 (by decide +kernel) ?_
      obtain ⟨rfl, rfl, rfl, rfl⟩ := tp_inj4 hm
      exact tp_zret hx hb hr hlocks rfl hw d_Mo_orderly_257
set_option maxHeartbeats 4000000 in
set_option maxRecDepth 100000 in
theorem w_Mo_orderly_234 {q_j q_ji q_jo q_jm q_jn q_jf : Nat} {j_in : Int32} {j_out : Int32} {j_made : Int32} {j_known : Int32} {j_fat : Int32} {j_flong : Int32} {j_told : Int32} {j_at : Int32} {ji_f : Nat → Int32} {jo_f : Nat → Int32} {jm_f : Nat → Int32} {jn_f : Nat → Int32} {jf_f : Nat → Int32} {N : Nat} {r : Int32} {j_end' : Int32} {j_fault' : Int32} {j_fp' : Int32} (hF2 : tp_F p m c c_Mo_orderly 6 s args tpG R_Mo meth (some .boolean)) : ∀ (x1 : Int32) (j_end : Int32) (j_fault : Int32) (j_fp : Int32) (H : Heap) (locs : List Loc) (ls : Array Slot), m_Mo_orderly_234 N j_in ji_f  x1 j_end j_fault j_fp = some (r, j_end', j_fault', j_fp') → tp_Wd D (tp_ty cB cI) tM A s H locs [(q_j, .inr (7, [.ref q_ji, .int j_in, .ref q_jo, .int j_out, .ref q_jm, .int j_made, .ref q_jn, .ref q_jf, .int j_known, .int j_fat, .int j_flong, .int j_told, .int j_at, .int j_end, .int j_fault, .int j_fp])), (q_ji, .inl (cB, 10000, .inl ji_f)), (q_jo, .inl (cB, 10000, .inl jo_f)), (q_jm, .inl (cB, 20000, .inl jm_f)), (q_jn, .inl (cI, 10001, .inl jn_f)), (q_jf, .inl (cI, 10001, .inl jf_f))] → lv_has ls 6 [(0, .ref q_j), (1, .int x1)] → W p l e rm_Mo_orderly s m args below meth c H locs 0 0 (MQ below (tp_Qi D A r [(q_j, .inr (7, [.ref q_ji, .int j_in, .ref q_jo, .int j_out, .ref q_jm, .int j_made, .ref q_jn, .ref q_jf, .int j_known, .int j_fat, .int j_flong, .int j_told, .int j_at, .int j_end', .int j_fault', .int j_fp'])), (q_ji, .inl (cB, 10000, .inl ji_f)), (q_jo, .inl (cB, 10000, .inl jo_f)), (q_jm, .inl (cB, 20000, .inl jm_f)), (q_jn, .inl (cI, 10001, .inl jn_f)), (q_jf, .inl (cI, 10001, .inl jf_f))]) args s 0 0 A) (F0 m 234 ls []) := by
  obtain ⟨hF, hr, hlocks⟩ := id hF2
  obtain ⟨hx, hb, hml, hown, hts⟩ := id hF
  intro x1 j_end j_fault j_fp H locs ls hm hw hl
  unfold m_Mo_orderly_234 at hm
  refine lv_iconst (v := (0 : Int32)) hx hb d_Mo_orderly_234 (by decide +kernel) ?_
  exact w_Mo_orderly_235 hF2  _ _ _ _ _ _ _ _ hm hw (lv_sub hl [0, 1] rfl)
set_option maxHeartbeats 4000000 in
set_option maxRecDepth 100000 in
theorem w_Mo_orderly_230 {q_j q_ji q_jo q_jm q_jn q_jf : Nat} {j_in : Int32} {j_out : Int32} {j_made : Int32} {j_known : Int32} {j_fat : Int32} {j_flong : Int32} {j_told : Int32} {j_at : Int32} {ji_f : Nat → Int32} {jo_f : Nat → Int32} {jm_f : Nat → Int32} {jn_f : Nat → Int32} {jf_f : Nat → Int32} {N : Nat} {r : Int32} {j_end' : Int32} {j_fault' : Int32} {j_fp' : Int32} (hF2 : tp_F p m c c_Mo_orderly 6 s args tpG R_Mo meth (some .boolean)) : ∀ (x1 : Int32) (j_end : Int32) (j_fault : Int32) (j_fp : Int32) (H : Heap) (locs : List Loc) (ls : Array Slot), m_Mo_orderly_230 N j_in ji_f  x1 j_end j_fault j_fp = some (r, j_end', j_fault', j_fp') → tp_Wd D (tp_ty cB cI) tM A s H locs [(q_j, .inr (7, [.ref q_ji, .int j_in, .ref q_jo, .int j_out, .ref q_jm, .int j_made, .ref q_jn, .ref q_jf, .int j_known, .int j_fat, .int j_flong, .int j_told, .int j_at, .int j_end, .int j_fault, .int j_fp])), (q_ji, .inl (cB, 10000, .inl ji_f)), (q_jo, .inl (cB, 10000, .inl jo_f)), (q_jm, .inl (cB, 20000, .inl jm_f)), (q_jn, .inl (cI, 10001, .inl jn_f)), (q_jf, .inl (cI, 10001, .inl jf_f))] → lv_has ls 6 [(0, .ref q_j), (1, .int x1)] → W p l e rm_Mo_orderly s m args below meth c H locs 0 0 (MQ below (tp_Qi D A r [(q_j, .inr (7, [.ref q_ji, .int j_in, .ref q_jo, .int j_out, .ref q_jm, .int j_made, .ref q_jn, .ref q_jf, .int j_known, .int j_fat, .int j_flong, .int j_told, .int j_at, .int j_end', .int j_fault', .int j_fp'])), (q_ji, .inl (cB, 10000, .inl ji_f)), (q_jo, .inl (cB, 10000, .inl jo_f)), (q_jm, .inl (cB, 20000, .inl jm_f)), (q_jn, .inl (cI, 10001, .inl jn_f)), (q_jf, .inl (cI, 10001, .inl jf_f))]) args s 0 0 A) (F0 m 230 ls []) := by
  obtain ⟨hF, hr, hlocks⟩ := id hF2
  obtain ⟨hx, hb, hml, hown, hts⟩ := id hF
  intro x1 j_end j_fault j_fp H locs ls hm hw hl
  unfold m_Mo_orderly_230 at hm
  refine lv_iconst (v := (1 : Int32)) hx hb d_Mo_orderly_230 (by decide +kernel) ?_
  refine lv_goto (tgt := 235) hx hb d_Mo_orderly_231 (by decide +kernel) ?_
  exact w_Mo_orderly_235 hF2  _ _ _ _ _ _ _ _ hm hw (lv_sub hl [0, 1] rfl)
set_option maxHeartbeats 4000000 in
set_option maxRecDepth 100000 in
theorem w_Mo_orderly_219 {q_j q_ji q_jo q_jm q_jn q_jf : Nat} {j_in : Int32} {j_out : Int32} {j_made : Int32} {j_known : Int32} {j_fat : Int32} {j_flong : Int32} {j_told : Int32} {j_at : Int32} {ji_f : Nat → Int32} {jo_f : Nat → Int32} {jm_f : Nat → Int32} {jn_f : Nat → Int32} {jf_f : Nat → Int32} {N : Nat} {r : Int32} {j_end' : Int32} {j_fault' : Int32} {j_fp' : Int32} (hF2 : tp_F p m c c_Mo_orderly 6 s args tpG R_Mo meth (some .boolean)) : ∀ (x1 : Int32) (x2 : Int32) (x3 : Int32) (j_end : Int32) (j_fault : Int32) (j_fp : Int32) (H : Heap) (locs : List Loc) (ls : Array Slot), m_Mo_orderly_219 N j_in ji_f  x1 x2 x3 j_end j_fault j_fp = some (r, j_end', j_fault', j_fp') → tp_Wd D (tp_ty cB cI) tM A s H locs [(q_j, .inr (7, [.ref q_ji, .int j_in, .ref q_jo, .int j_out, .ref q_jm, .int j_made, .ref q_jn, .ref q_jf, .int j_known, .int j_fat, .int j_flong, .int j_told, .int j_at, .int j_end, .int j_fault, .int j_fp])), (q_ji, .inl (cB, 10000, .inl ji_f)), (q_jo, .inl (cB, 10000, .inl jo_f)), (q_jm, .inl (cB, 20000, .inl jm_f)), (q_jn, .inl (cI, 10001, .inl jn_f)), (q_jf, .inl (cI, 10001, .inl jf_f))] → lv_has ls 6 [(0, .ref q_j), (1, .int x1), (2, .int x2), (3, .int x3)] → W p l e rm_Mo_orderly s m args below meth c H locs 0 0 (MQ below (tp_Qi D A r [(q_j, .inr (7, [.ref q_ji, .int j_in, .ref q_jo, .int j_out, .ref q_jm, .int j_made, .ref q_jn, .ref q_jf, .int j_known, .int j_fat, .int j_flong, .int j_told, .int j_at, .int j_end', .int j_fault', .int j_fp'])), (q_ji, .inl (cB, 10000, .inl ji_f)), (q_jo, .inl (cB, 10000, .inl jo_f)), (q_jm, .inl (cB, 20000, .inl jm_f)), (q_jn, .inl (cI, 10001, .inl jn_f)), (q_jf, .inl (cI, 10001, .inl jf_f))]) args s 0 0 A) (F0 m 219 ls []) := by
  obtain ⟨hF, hr, hlocks⟩ := id hF2
  obtain ⟨hx, hb, hml, hown, hts⟩ := id hF
  intro x1 x2 x3 j_end j_fault j_fp H locs ls hm hw hl
  unfold m_Mo_orderly_219 at hm
  refine lv_iload_n hx hb d_Mo_orderly_219 rfl (lv_at hl 2 rfl) ?_
  refine lv_iconst (v := (1 : Int32)) hx hb d_Mo_orderly_220 (by decide +kernel) ?_
  refine lv_icmp_ne (tgt := 234) hx hb d_Mo_orderly_221 (by decide +kernel) (fun hc39 => ?_) (fun hc39 => ?_)
  · replace hm := tp_if hc39 hm
    exact w_Mo_orderly_234 hF2  _ _ _ _ _ _ _ hm hw (lv_sub hl [0, 1] rfl)
  · replace hm := tp_it hc39 hm
    refine lv_iload_n hx hb d_Mo_orderly_224 rfl (lv_at hl 3 rfl) ?_
    refine lv_ldc (v := (65540 : Int32)) hx hb hown (hts _ wd_465) d_Mo_orderly_225 ?_
    refine lv_icmp_le (tgt := 234) hx hb d_Mo_orderly_227 (by decide +kernel) (fun hc40 => ?_) (fun hc40 => ?_)
    · replace hm := tp_it hc40 hm
      exact w_Mo_orderly_234 hF2  _ _ _ _ _ _ _ hm hw (lv_sub hl [0, 1] rfl)
    · replace hm := tp_if hc40 hm
      exact w_Mo_orderly_230 hF2  _ _ _ _ _ _ _ hm hw (lv_sub hl [0, 1] rfl)
set_option maxHeartbeats 4000000 in
set_option maxRecDepth 100000 in
theorem w_Mo_orderly_38 {q_j q_ji q_jo q_jm q_jn q_jf : Nat} {j_in : Int32} {j_out : Int32} {j_made : Int32} {j_known : Int32} {j_fat : Int32} {j_flong : Int32} {j_told : Int32} {j_at : Int32} {ji_f : Nat → Int32} {jo_f : Nat → Int32} {jm_f : Nat → Int32} {jn_f : Nat → Int32} {jf_f : Nat → Int32} {N : Nat} {r : Int32} {j_end' : Int32} {j_fault' : Int32} {j_fp' : Int32} (hF2 : tp_F p m c c_Mo_orderly 6 s args tpG R_Mo meth (some .boolean)) : ∀ (x1 : Int32) (x2 : Int32) (j_end : Int32) (j_fault : Int32) (j_fp : Int32) (H : Heap) (locs : List Loc) (ls : Array Slot), m_Mo_orderly_38 N j_in ji_f  x1 x2 j_end j_fault j_fp = some (r, j_end', j_fault', j_fp') → tp_Wd D (tp_ty cB cI) tM A s H locs [(q_j, .inr (7, [.ref q_ji, .int j_in, .ref q_jo, .int j_out, .ref q_jm, .int j_made, .ref q_jn, .ref q_jf, .int j_known, .int j_fat, .int j_flong, .int j_told, .int j_at, .int j_end, .int j_fault, .int j_fp])), (q_ji, .inl (cB, 10000, .inl ji_f)), (q_jo, .inl (cB, 10000, .inl jo_f)), (q_jm, .inl (cB, 20000, .inl jm_f)), (q_jn, .inl (cI, 10001, .inl jn_f)), (q_jf, .inl (cI, 10001, .inl jf_f))] → lv_has ls 6 [(0, .ref q_j), (1, .int x1), (2, .int x2)] → W p l e rm_Mo_orderly s m args below meth c H locs 0 0 (MQ below (tp_Qi D A r [(q_j, .inr (7, [.ref q_ji, .int j_in, .ref q_jo, .int j_out, .ref q_jm, .int j_made, .ref q_jn, .ref q_jf, .int j_known, .int j_fat, .int j_flong, .int j_told, .int j_at, .int j_end', .int j_fault', .int j_fp'])), (q_ji, .inl (cB, 10000, .inl ji_f)), (q_jo, .inl (cB, 10000, .inl jo_f)), (q_jm, .inl (cB, 20000, .inl jm_f)), (q_jn, .inl (cI, 10001, .inl jn_f)), (q_jf, .inl (cI, 10001, .inl jf_f))]) args s 0 0 A) (F0 m 38 ls []) := by
  obtain ⟨hF, hr, hlocks⟩ := id hF2
  obtain ⟨hx, hb, hml, hown, hts⟩ := id hF
  intro x1 x2 j_end j_fault j_fp H locs ls hm hw hl
  unfold m_Mo_orderly_38 at hm
  refine lv_iload_n hx hb d_Mo_orderly_38 rfl (lv_at hl 1 rfl) ?_
  refine lv_iconst (v := (4 : Int32)) hx hb d_Mo_orderly_39 (by decide +kernel) ?_
  refine lv_iadd hx hb d_Mo_orderly_40 ?_
  refine lv_aload_n hx hb d_Mo_orderly_41 rfl (lv_at hl 0 rfl) ?_
  refine tp_get (v := .int j_in) (C := R_Mo) (T := T_Mo) hx hb hts fw_Mo hown hw 0 rfl rfl 1 (by decide +kernel) (hts _ wd_332) rfl d_Mo_orderly_42 ?_
  refine lv_icmp_le (tgt := 59) hx hb d_Mo_orderly_45 (by decide +kernel) (fun hc15 => ?_) (fun hc15 => ?_)
  · replace hm := tp_it hc15 hm
    refine lv_aload_n hx hb d_Mo_orderly_59 rfl (lv_at hl 0 rfl) ?_
    refine lv_iload_n hx hb d_Mo_orderly_60 rfl (lv_at hl 1 rfl) ?_
    refine lv_iconst (v := (1 : Int32)) hx hb d_Mo_orderly_61 (by decide +kernel) ?_
    refine lv_iadd hx hb d_Mo_orderly_62 ?_
    obtain ⟨r16, hm17, hm⟩ := tp_b1_e hm
    refine tp_calli (wr := []) (WS' := [(q_j, .inr (7, [.ref q_ji, .int j_in, .ref q_jo, .int j_out, .ref q_jm, .int j_made, .ref q_jn, .ref q_jf, .int j_known, .int j_fat, .int j_flong, .int j_told, .int j_at, .int j_end, .int j_fault, .int j_fp])), (q_ji, .inl (cB, 10000, .inl ji_f)), (q_jo, .inl (cB, 10000, .inl jo_f)), (q_jm, .inl (cB, 20000, .inl jm_f)), (q_jn, .inl (cI, 10001, .inl jn_f)), (q_jf, .inl (cI, 10001, .inl jf_f))]) (va_runV (As := [.int (x1 + (1 : Int32))]) (rest := []) hF (ct_Mo_byteOf (l := l) (D := D) (cB := cB) (cI := cI) (tM := tM) (q_j := q_j) (q_ji := q_ji) (q_jo := q_jo) (q_jm := q_jm) (q_jn := q_jn) (q_jf := q_jf) (j_in := j_in) (j_out := j_out) (j_made := j_made) (j_known := j_known) (j_fat := j_fat) (j_flong := j_flong) (j_told := j_told) (j_at := j_at) (j_end := j_end) (j_fault := j_fault) (j_fp := j_fp) (ji_f := ji_f) (jo_f := jo_f) (jm_f := jm_f) (jn_f := jn_f) (jf_f := jf_f) (x1 := (x1 + (1 : Int32))) (r := r16) hm17 _) (cwV 1 hts (tpG_V wd_462 wd_463 wd_464 wd_340 wd_461) rfl rfl rfl ⟨rfl, yd_Mo_byteOf⟩ ⟨Nat.le_of_ble_eq_true rfl, Nat.le_of_ble_eq_true rfl⟩) ⟨tp_blind, va_recv hw.1 hw.2.1 (ci := 7) (q0 := 0) rfl rfl, tp_pre hw [0, 1, 2, 3, 4, 5] rfl rfl⟩ rfl rfl hl.1 rfl (lv_room (Nat.le_of_ble_eq_true rfl)) d_Mo_orderly_63 ⟨Nat.le_of_ble_eq_true rfl, Nat.le_of_ble_eq_true rfl⟩) hw [0, 1, 2, 3, 4, 5] [] [0, 1, 2, 3, 4, 5] rfl rfl rfl (by decide) rfl rfl (fun H locs hw => ?_)
    refine lv_sipush (v := (256 : Int32)) hx hb d_Mo_orderly_66 (by decide +kernel) ?_
    refine lv_aload_n hx hb d_Mo_orderly_69 rfl (lv_at hl 0 rfl) ?_
    refine lv_iload_n hx hb d_Mo_orderly_70 rfl (lv_at hl 1 rfl) ?_
    refine lv_iconst (v := (2 : Int32)) hx hb d_Mo_orderly_71 (by decide +kernel) ?_
    refine lv_iadd hx hb d_Mo_orderly_72 ?_
    obtain ⟨r18, hm19, hm⟩ := tp_b1_e hm
    refine tp_calli (wr := []) (WS' := [(q_j, .inr (7, [.ref q_ji, .int j_in, .ref q_jo, .int j_out, .ref q_jm, .int j_made, .ref q_jn, .ref q_jf, .int j_known, .int j_fat, .int j_flong, .int j_told, .int j_at, .int j_end, .int j_fault, .int j_fp])), (q_ji, .inl (cB, 10000, .inl ji_f)), (q_jo, .inl (cB, 10000, .inl jo_f)), (q_jm, .inl (cB, 20000, .inl jm_f)), (q_jn, .inl (cI, 10001, .inl jn_f)), (q_jf, .inl (cI, 10001, .inl jf_f))]) (va_runV (As := [.int (x1 + (2 : Int32))]) (rest := [.int (256 : Int32), .int r16]) hF (ct_Mo_byteOf (l := l) (D := D) (cB := cB) (cI := cI) (tM := tM) (q_j := q_j) (q_ji := q_ji) (q_jo := q_jo) (q_jm := q_jm) (q_jn := q_jn) (q_jf := q_jf) (j_in := j_in) (j_out := j_out) (j_made := j_made) (j_known := j_known) (j_fat := j_fat) (j_flong := j_flong) (j_told := j_told) (j_at := j_at) (j_end := j_end) (j_fault := j_fault) (j_fp := j_fp) (ji_f := ji_f) (jo_f := jo_f) (jm_f := jm_f) (jn_f := jn_f) (jf_f := jf_f) (x1 := (x1 + (2 : Int32))) (r := r18) hm19 _) (cwV 1 hts (tpG_V wd_462 wd_463 wd_464 wd_340 wd_461) rfl rfl rfl ⟨rfl, yd_Mo_byteOf⟩ ⟨Nat.le_of_ble_eq_true rfl, Nat.le_of_ble_eq_true rfl⟩) ⟨tp_blind, va_recv hw.1 hw.2.1 (ci := 7) (q0 := 0) rfl rfl, tp_pre hw [0, 1, 2, 3, 4, 5] rfl rfl⟩ rfl rfl hl.1 rfl (lv_room (Nat.le_of_ble_eq_true rfl)) d_Mo_orderly_73 ⟨Nat.le_of_ble_eq_true rfl, Nat.le_of_ble_eq_true rfl⟩) hw [0, 1, 2, 3, 4, 5] [] [0, 1, 2, 3, 4, 5] rfl rfl rfl (by decide) rfl rfl (fun H locs hw => ?_)
    refine lv_imul hx hb d_Mo_orderly_76 ?_
    refine lv_iadd hx hb d_Mo_orderly_77 ?_
    refine lv_ldc (v := (65536 : Int32)) hx hb hown (hts _ wd_381) d_Mo_orderly_78 ?_
    refine lv_aload_n hx hb d_Mo_orderly_80 rfl (lv_at hl 0 rfl) ?_
    refine lv_iload_n hx hb d_Mo_orderly_81 rfl (lv_at hl 1 rfl) ?_
    refine lv_iconst (v := (3 : Int32)) hx hb d_Mo_orderly_82 (by decide +kernel) ?_
    refine lv_iadd hx hb d_Mo_orderly_83 ?_
    obtain ⟨r20, hm21, hm⟩ := tp_b1_e hm
    refine tp_calli (wr := []) (WS' := [(q_j, .inr (7, [.ref q_ji, .int j_in, .ref q_jo, .int j_out, .ref q_jm, .int j_made, .ref q_jn, .ref q_jf, .int j_known, .int j_fat, .int j_flong, .int j_told, .int j_at, .int j_end, .int j_fault, .int j_fp])), (q_ji, .inl (cB, 10000, .inl ji_f)), (q_jo, .inl (cB, 10000, .inl jo_f)), (q_jm, .inl (cB, 20000, .inl jm_f)), (q_jn, .inl (cI, 10001, .inl jn_f)), (q_jf, .inl (cI, 10001, .inl jf_f))]) (va_runV (As := [.int (x1 + (3 : Int32))]) (rest := [.int (65536 : Int32), .int (r16 + ((256 : Int32) * r18))]) hF (ct_Mo_byteOf (l := l) (D := D) (cB := cB) (cI := cI) (tM := tM) (q_j := q_j) (q_ji := q_ji) (q_jo := q_jo) (q_jm := q_jm) (q_jn := q_jn) (q_jf := q_jf) (j_in := j_in) (j_out := j_out) (j_made := j_made) (j_known := j_known) (j_fat := j_fat) (j_flong := j_flong) (j_told := j_told) (j_at := j_at) (j_end := j_end) (j_fault := j_fault) (j_fp := j_fp) (ji_f := ji_f) (jo_f := jo_f) (jm_f := jm_f) (jn_f := jn_f) (jf_f := jf_f) (x1 := (x1 + (3 : Int32))) (r := r20) hm21 _) (cwV 1 hts (tpG_V wd_462 wd_463 wd_464 wd_340 wd_461) rfl rfl rfl ⟨rfl, yd_Mo_byteOf⟩ ⟨Nat.le_of_ble_eq_true rfl, Nat.le_of_ble_eq_true rfl⟩) ⟨tp_blind, va_recv hw.1 hw.2.1 (ci := 7) (q0 := 0) rfl rfl, tp_pre hw [0, 1, 2, 3, 4, 5] rfl rfl⟩ rfl rfl hl.1 rfl (lv_room (Nat.le_of_ble_eq_true rfl)) d_Mo_orderly_84 ⟨Nat.le_of_ble_eq_true rfl, Nat.le_of_ble_eq_true rfl⟩) hw [0, 1, 2, 3, 4, 5] [] [0, 1, 2, 3, 4, 5] rfl rfl rfl (by decide) rfl rfl (fun H locs hw => ?_)
    refine lv_imul hx hb d_Mo_orderly_87 ?_
    refine lv_iadd hx hb d_Mo_orderly_88 ?_
    obtain ⟨y22, ey22, hm⟩ := tp_b0_e hm
    refine tp_topi ey22 ?_
    refine lv_istore_n (lv' := [(3, .int y22), (0, .ref q_j), (1, .int x1), (2, .int x2)]) hx hb d_Mo_orderly_89 rfl hl (by decide +kernel) rfl (fun ls hl => ?_)
    refine lv_iload_n hx hb d_Mo_orderly_90 rfl (lv_at hl 2 rfl) ?_
    refine lv_iconst (v := (4 : Int32)) hx hb d_Mo_orderly_91 (by decide +kernel) ?_
    refine lv_iadd hx hb d_Mo_orderly_92 ?_
    refine lv_iload_n hx hb d_Mo_orderly_93 rfl (lv_at hl 0 rfl) ?_
    refine lv_iadd hx hb d_Mo_orderly_94 ?_
    refine lv_aload_n hx hb d_Mo_orderly_95 rfl (lv_at hl 1 rfl) ?_
    refine tp_get (v := .int j_in) (C := R_Mo) (T := T_Mo) hx hb hts fw_Mo hown hw 0 rfl rfl 1 (by decide +kernel) (hts _ wd_332) rfl d_Mo_orderly_96 ?_
    refine lv_icmp_le (tgt := 113) hx hb d_Mo_orderly_99 (by decide +kernel) (fun hc23 => ?_) (fun hc23 => ?_)
    · replace hm := tp_it hc23 hm
      refine lv_aload_n hx hb d_Mo_orderly_113 rfl (lv_at hl 1 rfl) ?_
      refine lv_iload_n hx hb d_Mo_orderly_114 rfl (lv_at hl 2 rfl) ?_
      refine lv_iconst (v := (4 : Int32)) hx hb d_Mo_orderly_115 (by decide +kernel) ?_
      refine lv_iadd hx hb d_Mo_orderly_116 ?_
      refine lv_iload_n hx hb d_Mo_orderly_117 rfl (lv_at hl 0 rfl) ?_
      refine lv_iadd hx hb d_Mo_orderly_118 ?_
      obtain ⟨y24, ey24, hm⟩ := tp_b0_e hm
      refine tp_topi ey24 ?_
      refine tp_put (v := .int y24) (C := R_Mo) (T := T_Mo) (WS' := [(q_j, .inr (7, [.ref q_ji, .int j_in, .ref q_jo, .int j_out, .ref q_jm, .int j_made, .ref q_jn, .ref q_jf, .int j_known, .int j_fat, .int j_flong, .int j_told, .int j_at, .int y24, .int j_fault, .int j_fp])), (q_ji, .inl (cB, 10000, .inl ji_f)), (q_jo, .inl (cB, 10000, .inl jo_f)), (q_jm, .inl (cB, 20000, .inl jm_f)), (q_jn, .inl (cI, 10001, .inl jn_f)), (q_jf, .inl (cI, 10001, .inl jf_f))]) hx hb hts fw_Mo ty_Mo ty_Mo_ok nm_Mo hown hw 0 rfl rfl 13 (by decide +kernel) (hts _ wd_406) rfl rfl rfl (Nat.le_of_ble_eq_true rfl) rfl d_Mo_orderly_119 (fun H locs hw => ?_)
      refine lv_iload_n hx hb d_Mo_orderly_122 rfl (lv_at hl 3 rfl) ?_
      refine lv_sipush (v := (255 : Int32)) hx hb d_Mo_orderly_123 (by decide +kernel) ?_
      refine lv_icmp_ne (tgt := 209) hx hb d_Mo_orderly_126 (by decide +kernel) (fun hc25 => ?_) (fun hc25 => ?_)
      · replace hm := tp_if hc25 hm
        refine lv_iload_n hx hb d_Mo_orderly_209 rfl (lv_at hl 3 rfl) ?_
        refine lv_iconst (v := (1 : Int32)) hx hb d_Mo_orderly_210 (by decide +kernel) ?_
        refine lv_icmp_gt (tgt := 219) hx hb d_Mo_orderly_211 (by decide +kernel) (fun hc26 => ?_) (fun hc26 => ?_)
        · replace hm := tp_it hc26 hm
          exact w_Mo_orderly_219 hF2  _ _ _ _ _ _ _ _ _ hm hw (lv_sub hl [1, 2, 3, 0] rfl)
        · replace hm := tp_if hc26 hm
          refine lv_iload_n hx hb d_Mo_orderly_214 rfl (lv_at hl 0 rfl) ?_
          refine lv_iconst (v := (4 : Int32)) hx hb d_Mo_orderly_215 (by decide +kernel) ?_
          refine lv_icmp_lt (tgt := 230) hx hb d_Mo_orderly_216 (by decide +kernel) (fun hc27 => ?_) (fun hc27 => ?_)
          · replace hm := tp_it hc27 hm
            exact w_Mo_orderly_230 hF2  _ _ _ _ _ _ _ hm hw (lv_sub hl [1, 2] rfl)
          · replace hm := tp_if hc27 hm
            exact w_Mo_orderly_219 hF2  _ _ _ _ _ _ _ _ _ hm hw (lv_sub hl [1, 2, 3, 0] rfl)
      · replace hm := tp_it hc25 hm
        refine lv_iload_n hx hb d_Mo_orderly_129 rfl (lv_at hl 0 rfl) ?_
        refine lv_bipush (v := (6 : Int32)) hx hb d_Mo_orderly_130 (by decide +kernel) ?_
        refine lv_icmp_ne (tgt := 139) hx hb d_Mo_orderly_132 (by decide +kernel) (fun hc28 => ?_) (fun hc28 => ?_)
        · replace hm := tp_if hc28 hm
          refine lv_iconst (v := (0 : Int32)) hx hb d_Mo_orderly_139 (by decide +kernel) ?_
          refine lv_istore (lv' := [(4, .int (0 : Int32)), (3, .int y22), (0, .ref q_j), (1, .int x1), (2, .int x2)]) hx hb d_Mo_orderly_140 hl (by decide +kernel) rfl (fun ls hl => ?_)
          refine lv_iconst (v := (0 : Int32)) hx hb d_Mo_orderly_142 (by decide +kernel) ?_
          refine lv_istore (lv' := [(5, .int (0 : Int32)), (4, .int (0 : Int32)), (3, .int y22), (0, .ref q_j), (1, .int x1), (2, .int x2)]) hx hb d_Mo_orderly_143 hl (by decide +kernel) rfl (fun ls hl => ?_)
          exact w_Mo_orderly_145 hF2  N _ _ _ _ _ _ _ _ _ hm hw (lv_sub hl [3, 4, 1, 0] rfl)
        · replace hm := tp_it hc28 hm
          refine lv_iconst (v := (1 : Int32)) hx hb d_Mo_orderly_135 (by decide +kernel) ?_
          refine lv_goto (tgt := 140) hx hb d_Mo_orderly_136 (by decide +kernel) ?_
          refine lv_istore (lv' := [(4, .int (1 : Int32)), (3, .int y22), (0, .ref q_j), (1, .int x1), (2, .int x2)]) hx hb d_Mo_orderly_140 hl (by decide +kernel) rfl (fun ls hl => ?_)
          refine lv_iconst (v := (0 : Int32)) hx hb d_Mo_orderly_142 (by decide +kernel) ?_
          refine lv_istore (lv' := [(5, .int (0 : Int32)), (4, .int (1 : Int32)), (3, .int y22), (0, .ref q_j), (1, .int x1), (2, .int x2)]) hx hb d_Mo_orderly_143 hl (by decide +kernel) rfl (fun ls hl => ?_)
          exact w_Mo_orderly_145 hF2  N _ _ _ _ _ _ _ _ _ hm hw (lv_sub hl [3, 4, 1, 0] rfl)
    · replace hm := tp_if hc23 hm
      refine lv_aload_n hx hb d_Mo_orderly_102 rfl (lv_at hl 1 rfl) ?_
      refine lv_bipush (v := (7 : Int32)) hx hb d_Mo_orderly_103 (by decide +kernel) ?_
      refine lv_aload_n hx hb d_Mo_orderly_105 rfl (lv_at hl 1 rfl) ?_
      refine tp_get (v := .int j_in) (C := R_Mo) (T := T_Mo) hx hb hts fw_Mo hown hw 0 rfl rfl 1 (by decide +kernel) (hts _ wd_332) rfl d_Mo_orderly_106 ?_
      obtain ⟨r29, j_fault_30, j_fp_31, hm32, hm⟩ := tp_b3_e hm
      refine tp_calli (wr := []) (WS' := [(q_j, .inr (7, [.ref q_ji, .int j_in, .ref q_jo, .int j_out, .ref q_jm, .int j_made, .ref q_jn, .ref q_jf, .int j_known, .int j_fat, .int j_flong, .int j_told, .int j_at, .int j_end, .int j_fault_30, .int j_fp_31])), (q_ji, .inl (cB, 10000, .inl ji_f)), (q_jo, .inl (cB, 10000, .inl jo_f)), (q_jm, .inl (cB, 20000, .inl jm_f)), (q_jn, .inl (cI, 10001, .inl jn_f)), (q_jf, .inl (cI, 10001, .inl jf_f))]) (va_runV (As := [.int (7 : Int32), .int j_in]) (rest := []) hF (ct_Mo_fails (l := l) (D := D) (cB := cB) (cI := cI) (tM := tM) (q_j := q_j) (q_ji := q_ji) (q_jo := q_jo) (q_jm := q_jm) (q_jn := q_jn) (q_jf := q_jf) (j_in := j_in) (j_out := j_out) (j_made := j_made) (j_known := j_known) (j_fat := j_fat) (j_flong := j_flong) (j_told := j_told) (j_at := j_at) (j_end := j_end) (j_fault := j_fault) (j_fp := j_fp) (ji_f := ji_f) (jo_f := jo_f) (jm_f := jm_f) (jn_f := jn_f) (jf_f := jf_f) (x1 := (7 : Int32)) (x2 := j_in) (r := r29) (j_fault' := j_fault_30) (j_fp' := j_fp_31) hm32 _) (cwV 2 hts (tpG_V wd_409 wd_410 wd_411 wd_340 wd_408) rfl rfl rfl ⟨rfl, yd_Mo_fails⟩ ⟨Nat.le_of_ble_eq_true rfl, Nat.le_of_ble_eq_true rfl⟩) ⟨tp_blind, va_recv hw.1 hw.2.1 (ci := 7) (q0 := 0) rfl rfl, tp_pre hw [0, 1, 2, 3, 4, 5] rfl rfl⟩ rfl rfl hl.1 rfl (lv_room (Nat.le_of_ble_eq_true rfl)) d_Mo_orderly_109 ⟨Nat.le_of_ble_eq_true rfl, Nat.le_of_ble_eq_true rfl⟩) hw [0, 1, 2, 3, 4, 5] [] [0, 1, 2, 3, 4, 5] rfl rfl rfl (by decide) rfl rfl (fun H locs hw => ?_)
      obtain ⟨hn33, hm⟩ := tp_gd_e hm
      obtain ⟨rfl, rfl, rfl, rfl⟩ := tp_inj4 hm
      exact tp_zret hx hb hr hlocks (tp_narZ (of_decide_eq_true hn33)) hw d_Mo_orderly_112
  · replace hm := tp_if hc15 hm
    refine lv_aload_n hx hb d_Mo_orderly_48 rfl (lv_at hl 0 rfl) ?_
    refine lv_bipush (v := (7 : Int32)) hx hb d_Mo_orderly_49 (by decide +kernel) ?_
    refine lv_aload_n hx hb d_Mo_orderly_51 rfl (lv_at hl 0 rfl) ?_
    refine tp_get (v := .int j_in) (C := R_Mo) (T := T_Mo) hx hb hts fw_Mo hown hw 0 rfl rfl 1 (by decide +kernel) (hts _ wd_332) rfl d_Mo_orderly_52 ?_
    obtain ⟨r34, j_fault_35, j_fp_36, hm37, hm⟩ := tp_b3_e hm
    refine tp_calli (wr := []) (WS' := [(q_j, .inr (7, [.ref q_ji, .int j_in, .ref q_jo, .int j_out, .ref q_jm, .int j_made, .ref q_jn, .ref q_jf, .int j_known, .int j_fat, .int j_flong, .int j_told, .int j_at, .int j_end, .int j_fault_35, .int j_fp_36])), (q_ji, .inl (cB, 10000, .inl ji_f)), (q_jo, .inl (cB, 10000, .inl jo_f)), (q_jm, .inl (cB, 20000, .inl jm_f)), (q_jn, .inl (cI, 10001, .inl jn_f)), (q_jf, .inl (cI, 10001, .inl jf_f))]) (va_runV (As := [.int (7 : Int32), .int j_in]) (rest := []) hF (ct_Mo_fails (l := l) (D := D) (cB := cB) (cI := cI) (tM := tM) (q_j := q_j) (q_ji := q_ji) (q_jo := q_jo) (q_jm := q_jm) (q_jn := q_jn) (q_jf := q_jf) (j_in := j_in) (j_out := j_out) (j_made := j_made) (j_known := j_known) (j_fat := j_fat) (j_flong := j_flong) (j_told := j_told) (j_at := j_at) (j_end := j_end) (j_fault := j_fault) (j_fp := j_fp) (ji_f := ji_f) (jo_f := jo_f) (jm_f := jm_f) (jn_f := jn_f) (jf_f := jf_f) (x1 := (7 : Int32)) (x2 := j_in) (r := r34) (j_fault' := j_fault_35) (j_fp' := j_fp_36) hm37 _) (cwV 2 hts (tpG_V wd_409 wd_410 wd_411 wd_340 wd_408) rfl rfl rfl ⟨rfl, yd_Mo_fails⟩ ⟨Nat.le_of_ble_eq_true rfl, Nat.le_of_ble_eq_true rfl⟩) ⟨tp_blind, va_recv hw.1 hw.2.1 (ci := 7) (q0 := 0) rfl rfl, tp_pre hw [0, 1, 2, 3, 4, 5] rfl rfl⟩ rfl rfl hl.1 rfl (lv_room (Nat.le_of_ble_eq_true rfl)) d_Mo_orderly_55 ⟨Nat.le_of_ble_eq_true rfl, Nat.le_of_ble_eq_true rfl⟩) hw [0, 1, 2, 3, 4, 5] [] [0, 1, 2, 3, 4, 5] rfl rfl rfl (by decide) rfl rfl (fun H locs hw => ?_)
    obtain ⟨hn38, hm⟩ := tp_gd_e hm
    obtain ⟨rfl, rfl, rfl, rfl⟩ := tp_inj4 hm
    exact tp_zret hx hb hr hlocks (tp_narZ (of_decide_eq_true hn38)) hw d_Mo_orderly_58
set_option maxHeartbeats 4000000 in
set_option maxRecDepth 100000 in
theorem w_Mo_orderly_19 {q_j q_ji q_jo q_jm q_jn q_jf : Nat} {j_in : Int32} {j_out : Int32} {j_made : Int32} {j_known : Int32} {j_fat : Int32} {j_flong : Int32} {j_told : Int32} {j_at : Int32} {ji_f : Nat → Int32} {jo_f : Nat → Int32} {jm_f : Nat → Int32} {jn_f : Nat → Int32} {jf_f : Nat → Int32} {N : Nat} {r : Int32} {j_end' : Int32} {j_fault' : Int32} {j_fp' : Int32} (hF2 : tp_F p m c c_Mo_orderly 6 s args tpG R_Mo meth (some .boolean)) : ∀ (x1 : Int32) (x2 : Int32) (j_end : Int32) (j_fault : Int32) (j_fp : Int32) (H : Heap) (locs : List Loc) (ls : Array Slot), m_Mo_orderly_19 N j_in ji_f  x1 x2 j_end j_fault j_fp = some (r, j_end', j_fault', j_fp') → tp_Wd D (tp_ty cB cI) tM A s H locs [(q_j, .inr (7, [.ref q_ji, .int j_in, .ref q_jo, .int j_out, .ref q_jm, .int j_made, .ref q_jn, .ref q_jf, .int j_known, .int j_fat, .int j_flong, .int j_told, .int j_at, .int j_end, .int j_fault, .int j_fp])), (q_ji, .inl (cB, 10000, .inl ji_f)), (q_jo, .inl (cB, 10000, .inl jo_f)), (q_jm, .inl (cB, 20000, .inl jm_f)), (q_jn, .inl (cI, 10001, .inl jn_f)), (q_jf, .inl (cI, 10001, .inl jf_f))] → lv_has ls 6 [(0, .ref q_j), (1, .int x1), (2, .int x2)] → W p l e rm_Mo_orderly s m args below meth c H locs 0 0 (MQ below (tp_Qi D A r [(q_j, .inr (7, [.ref q_ji, .int j_in, .ref q_jo, .int j_out, .ref q_jm, .int j_made, .ref q_jn, .ref q_jf, .int j_known, .int j_fat, .int j_flong, .int j_told, .int j_at, .int j_end', .int j_fault', .int j_fp'])), (q_ji, .inl (cB, 10000, .inl ji_f)), (q_jo, .inl (cB, 10000, .inl jo_f)), (q_jm, .inl (cB, 20000, .inl jm_f)), (q_jn, .inl (cI, 10001, .inl jn_f)), (q_jf, .inl (cI, 10001, .inl jf_f))]) args s 0 0 A) (F0 m 19 ls []) := by
  obtain ⟨hF, hr, hlocks⟩ := id hF2
  obtain ⟨hx, hb, hml, hown, hts⟩ := id hF
  intro x1 x2 j_end j_fault j_fp H locs ls hm hw hl
  unfold m_Mo_orderly_19 at hm
  refine lv_iload_n hx hb d_Mo_orderly_19 rfl (lv_at hl 2 rfl) ?_
  refine lv_iconst (v := (2 : Int32)) hx hb d_Mo_orderly_20 (by decide +kernel) ?_
  refine lv_icmp_lt (tgt := 38) hx hb d_Mo_orderly_21 (by decide +kernel) (fun hc8 => ?_) (fun hc8 => ?_)
  · replace hm := tp_it hc8 hm
    exact w_Mo_orderly_38 hF2  _ _ _ _ _ _ _ _ hm hw (lv_sub hl [0, 1, 2] rfl)
  · replace hm := tp_if hc8 hm
    refine lv_iload_n hx hb d_Mo_orderly_24 rfl (lv_at hl 2 rfl) ?_
    refine lv_bipush (v := (127 : Int32)) hx hb d_Mo_orderly_25 (by decide +kernel) ?_
    refine lv_icmp_gt (tgt := 38) hx hb d_Mo_orderly_27 (by decide +kernel) (fun hc9 => ?_) (fun hc9 => ?_)
    · replace hm := tp_it hc9 hm
      exact w_Mo_orderly_38 hF2  _ _ _ _ _ _ _ _ hm hw (lv_sub hl [0, 1, 2] rfl)
    · replace hm := tp_if hc9 hm
      refine lv_aload_n hx hb d_Mo_orderly_30 rfl (lv_at hl 0 rfl) ?_
      refine lv_bipush (v := (9 : Int32)) hx hb d_Mo_orderly_31 (by decide +kernel) ?_
      refine lv_iload_n hx hb d_Mo_orderly_33 rfl (lv_at hl 1 rfl) ?_
      obtain ⟨r10, j_fault_11, j_fp_12, hm13, hm⟩ := tp_b3_e hm
      refine tp_calli (wr := []) (WS' := [(q_j, .inr (7, [.ref q_ji, .int j_in, .ref q_jo, .int j_out, .ref q_jm, .int j_made, .ref q_jn, .ref q_jf, .int j_known, .int j_fat, .int j_flong, .int j_told, .int j_at, .int j_end, .int j_fault_11, .int j_fp_12])), (q_ji, .inl (cB, 10000, .inl ji_f)), (q_jo, .inl (cB, 10000, .inl jo_f)), (q_jm, .inl (cB, 20000, .inl jm_f)), (q_jn, .inl (cI, 10001, .inl jn_f)), (q_jf, .inl (cI, 10001, .inl jf_f))]) (va_runV (As := [.int (9 : Int32), .int x1]) (rest := []) hF (ct_Mo_fails (l := l) (D := D) (cB := cB) (cI := cI) (tM := tM) (q_j := q_j) (q_ji := q_ji) (q_jo := q_jo) (q_jm := q_jm) (q_jn := q_jn) (q_jf := q_jf) (j_in := j_in) (j_out := j_out) (j_made := j_made) (j_known := j_known) (j_fat := j_fat) (j_flong := j_flong) (j_told := j_told) (j_at := j_at) (j_end := j_end) (j_fault := j_fault) (j_fp := j_fp) (ji_f := ji_f) (jo_f := jo_f) (jm_f := jm_f) (jn_f := jn_f) (jf_f := jf_f) (x1 := (9 : Int32)) (x2 := x1) (r := r10) (j_fault' := j_fault_11) (j_fp' := j_fp_12) hm13 _) (cwV 2 hts (tpG_V wd_409 wd_410 wd_411 wd_340 wd_408) rfl rfl rfl ⟨rfl, yd_Mo_fails⟩ ⟨Nat.le_of_ble_eq_true rfl, Nat.le_of_ble_eq_true rfl⟩) ⟨tp_blind, va_recv hw.1 hw.2.1 (ci := 7) (q0 := 0) rfl rfl, tp_pre hw [0, 1, 2, 3, 4, 5] rfl rfl⟩ rfl rfl hl.1 rfl (lv_room (Nat.le_of_ble_eq_true rfl)) d_Mo_orderly_34 ⟨Nat.le_of_ble_eq_true rfl, Nat.le_of_ble_eq_true rfl⟩) hw [0, 1, 2, 3, 4, 5] [] [0, 1, 2, 3, 4, 5] rfl rfl rfl (by decide) rfl rfl (fun H locs hw => ?_)
      obtain ⟨hn14, hm⟩ := tp_gd_e hm
      obtain ⟨rfl, rfl, rfl, rfl⟩ := tp_inj4 hm
      exact tp_zret hx hb hr hlocks (tp_narZ (of_decide_eq_true hn14)) hw d_Mo_orderly_37
set_option maxHeartbeats 4000000 in
set_option maxRecDepth 100000 in
theorem ct_Mo_orderly {q_j q_ji q_jo q_jm q_jn q_jf : Nat} {j_in : Int32} {j_out : Int32} {j_made : Int32} {j_known : Int32} {j_fat : Int32} {j_flong : Int32} {j_told : Int32} {j_at : Int32} {j_end : Int32} {j_fault : Int32} {j_fp : Int32} {ji_f : Nat → Int32} {jo_f : Nat → Int32} {jm_f : Nat → Int32} {jn_f : Nat → Int32} {jf_f : Nat → Int32} {N : Nat} {x1 : Int32} {x2 : Int32} {r : Int32} {j_end' : Int32} {j_fault' : Int32} {j_fp' : Int32} (hm : m_Mo_orderly N x1 x2 j_in j_end j_fault j_fp ji_f = some (r, j_end', j_fault', j_fp')) (sz : Nat) : tp_Ci l y_Mo_orderly ws_Mo_orderly rm_Mo_orderly D (tp_ty cB cI) tM [.ref q_j, .int x1, .int x2] [(q_j, .inr (7, [.ref q_ji, .int j_in, .ref q_jo, .int j_out, .ref q_jm, .int j_made, .ref q_jn, .ref q_jf, .int j_known, .int j_fat, .int j_flong, .int j_told, .int j_at, .int j_end, .int j_fault, .int j_fp])), (q_ji, .inl (cB, 10000, .inl ji_f)), (q_jo, .inl (cB, 10000, .inl jo_f)), (q_jm, .inl (cB, 20000, .inl jm_f)), (q_jn, .inl (cI, 10001, .inl jn_f)), (q_jf, .inl (cI, 10001, .inl jf_f))] sz r [(q_j, .inr (7, [.ref q_ji, .int j_in, .ref q_jo, .int j_out, .ref q_jm, .int j_made, .ref q_jn, .ref q_jf, .int j_known, .int j_fat, .int j_flong, .int j_told, .int j_at, .int j_end', .int j_fault', .int j_fp'])), (q_ji, .inl (cB, 10000, .inl ji_f)), (q_jo, .inl (cB, 10000, .inl jo_f)), (q_jm, .inl (cB, 20000, .inl jm_f)), (q_jn, .inl (cI, 10001, .inl jn_f)), (q_jf, .inl (cI, 10001, .inl jf_f))] := by
  refine Met.ofW (cc := c_Mo_orderly) (maxL := 6) (ret := (some .boolean)) (by decide) rfl ?_
  intro p e s m args below meth c s₁ B hml hv
  obtain ⟨rfl, hv⟩ := hv
  have hw := tp_entry hv
  generalize va_A [(q_j, .inr (7, [.ref q_ji, .int j_in, .ref q_jo, .int j_out, .ref q_jm, .int j_made, .ref q_jn, .ref q_jf, .int j_known, .int j_fat, .int j_flong, .int j_told, .int j_at, .int j_end, .int j_fault, .int j_fp])), (q_ji, .inl (cB, 10000, .inl ji_f)), (q_jo, .inl (cB, 10000, .inl jo_f)), (q_jm, .inl (cB, 20000, .inl jm_f)), (q_jn, .inl (cI, 10001, .inl jn_f)), (q_jf, .inl (cI, 10001, .inl jf_f))] sz = A at hw ⊢
  have hx := B.exec
  have hb := B.bytes
  have hr := B.returns
  have hts0 := atoms_spec (ws := ws_Mo_orderly) B.pre
  have hts := fun w h => hts0 w (List.mem_cons_of_mem _ h)
  have hown : s.vm.findClass R_Mo = some m.cls := findClass_of_methodNamed B.named
  have hlocks := B.notSynchronized
  have hF : CallFix p m c c_Mo_orderly 6 s _ tpG R_Mo := ⟨hx, hb, hml, hown, hts⟩
  have hF2 : tp_F p m c c_Mo_orderly 6 s _ tpG R_Mo meth (some .boolean) := ⟨hF, hr, hlocks⟩
  have hl := lv_entry ([.ref q_j, .int x1, .int x2]) (n := 6) (Nat.le_of_ble_eq_true rfl)
  rw [lg_entry_eq]
  generalize (lg_sl ([.ref q_j, .int x1, .int x2]) ++ List.replicate (6 - (lg_sl ([.ref q_j, .int x1, .int x2])).length) Slot.unset).toArray = ls at hl ⊢
  replace hl : lv_has ls 6 [(0, .ref q_j), (1, .int x1), (2, .int x2)] := hl
  unfold m_Mo_orderly at hm
  refine lv_iload_n hx hb d_Mo_orderly_0 rfl (lv_at hl 1 rfl) ?_
  refine lv_if_ne (tgt := 19) hx hb d_Mo_orderly_1 (by decide +kernel) (fun hc1 => ?_) (fun hc1 => ?_)
  · replace hm := tp_if hc1 hm
    exact w_Mo_orderly_19 hF2  _ _ _ _ _ _ _ _ hm hw (lv_sub hl [0, 1, 2] rfl)
  · replace hm := tp_it hc1 hm
    refine lv_iload_n hx hb d_Mo_orderly_4 rfl (lv_at hl 2 rfl) ?_
    refine lv_sipush (v := (255 : Int32)) hx hb d_Mo_orderly_5 (by decide +kernel) ?_
    refine lv_icmp_eq (tgt := 19) hx hb d_Mo_orderly_8 (by decide +kernel) (fun hc2 => ?_) (fun hc2 => ?_)
    · replace hm := tp_it hc2 hm
      exact w_Mo_orderly_19 hF2  _ _ _ _ _ _ _ _ hm hw (lv_sub hl [0, 1, 2] rfl)
    · replace hm := tp_if hc2 hm
      refine lv_aload_n hx hb d_Mo_orderly_11 rfl (lv_at hl 0 rfl) ?_
      refine lv_bipush (v := (8 : Int32)) hx hb d_Mo_orderly_12 (by decide +kernel) ?_
      refine lv_iload_n hx hb d_Mo_orderly_14 rfl (lv_at hl 1 rfl) ?_
      obtain ⟨r3, j_fault_4, j_fp_5, hm6, hm⟩ := tp_b3_e hm
      refine tp_calli (wr := []) (WS' := [(q_j, .inr (7, [.ref q_ji, .int j_in, .ref q_jo, .int j_out, .ref q_jm, .int j_made, .ref q_jn, .ref q_jf, .int j_known, .int j_fat, .int j_flong, .int j_told, .int j_at, .int j_end, .int j_fault_4, .int j_fp_5])), (q_ji, .inl (cB, 10000, .inl ji_f)), (q_jo, .inl (cB, 10000, .inl jo_f)), (q_jm, .inl (cB, 20000, .inl jm_f)), (q_jn, .inl (cI, 10001, .inl jn_f)), (q_jf, .inl (cI, 10001, .inl jf_f))]) (va_runV (As := [.int (8 : Int32), .int x1]) (rest := []) hF (ct_Mo_fails (l := l) (D := D) (cB := cB) (cI := cI) (tM := tM) (q_j := q_j) (q_ji := q_ji) (q_jo := q_jo) (q_jm := q_jm) (q_jn := q_jn) (q_jf := q_jf) (j_in := j_in) (j_out := j_out) (j_made := j_made) (j_known := j_known) (j_fat := j_fat) (j_flong := j_flong) (j_told := j_told) (j_at := j_at) (j_end := j_end) (j_fault := j_fault) (j_fp := j_fp) (ji_f := ji_f) (jo_f := jo_f) (jm_f := jm_f) (jn_f := jn_f) (jf_f := jf_f) (x1 := (8 : Int32)) (x2 := x1) (r := r3) (j_fault' := j_fault_4) (j_fp' := j_fp_5) hm6 _) (cwV 2 hts (tpG_V wd_409 wd_410 wd_411 wd_340 wd_408) rfl rfl rfl ⟨rfl, yd_Mo_fails⟩ ⟨Nat.le_of_ble_eq_true rfl, Nat.le_of_ble_eq_true rfl⟩) ⟨tp_blind, va_recv hw.1 hw.2.1 (ci := 7) (q0 := 0) rfl rfl, tp_pre hw [0, 1, 2, 3, 4, 5] rfl rfl⟩ rfl rfl hl.1 rfl (lv_room (Nat.le_of_ble_eq_true rfl)) d_Mo_orderly_15 ⟨Nat.le_of_ble_eq_true rfl, Nat.le_of_ble_eq_true rfl⟩) hw [0, 1, 2, 3, 4, 5] [] [0, 1, 2, 3, 4, 5] rfl rfl rfl (by decide) rfl rfl (fun H locs hw => ?_)
      obtain ⟨hn7, hm⟩ := tp_gd_e hm
      obtain ⟨rfl, rfl, rfl, rfl⟩ := tp_inj4 hm
      exact tp_zret hx hb hr hlocks (tp_narZ (of_decide_eq_true hn7)) hw d_Mo_orderly_18
end
abbrev rm_Mo_takeChunk : Room := { frames := 4, cells := 0, slots := 0, locals := 108 }
abbrev ws_Mo_takeChunk : List Cond := .code y_Mo_takeChunk c_Mo_takeChunk 7 none :: tpG
noncomputable def m_Mo_takeChunk_127 (N : Nat) (j_end : Int32) (ji_f : Nat → Int32) (x1 : Int32) (x4 : Int32) (j_made : Int32) (j_at : Int32) (j_fault : Int32) (j_fp : Int32) (jm_f : Nat → Int32) : Option (Int32 × Int32 × Int32 × Int32 × (Nat → Int32)) :=
  if j_fault = 0 then
    tp_b1 (m_Mo_byteOf (x1 + (4 : Int32)) ji_f) fun r15 =>
    tp_b1 (m_Mo_byteOf (x1 + (5 : Int32)) ji_f) fun r17 =>
    tp_b1 (m_Mo_byteOf (x1 + (6 : Int32)) ji_f) fun r19 =>
    tp_b1 (m_Mo_byteOf (x1 + (7 : Int32)) ji_f) fun r21 =>
    tp_b0 (((r15 ||| (r17 <<< ((8 : Int32) &&& 31))) ||| (r19 <<< ((16 : Int32) &&& 31))) ||| (r21 <<< ((24 : Int32) &&& 31))) fun y23 =>
    tp_b1 (m_Mo_sumOf N 20000 x4 j_made jm_f) fun r24 =>
    if r24 = y23 then
      some (j_made, j_at, j_fault, j_fp, jm_f)
    else
      tp_b3 (m_Mo_fails (11 : Int32) (x1 + (4 : Int32)) j_fault j_fp) fun r27 j_fault_28 j_fp_29 =>
      some (j_made, j_at, j_fault_28, j_fp_29, jm_f)
  else
    some (j_made, j_at, j_fault, j_fp, jm_f)
noncomputable def m_Mo_takeChunk_101 (N : Nat) (j_end : Int32) (ji_f : Nat → Int32) (rec101 : Int32 → Int32 → Int32 → Int32 → Int32 → Int32 → Int32 → (Nat → Int32) → Option (Int32 × Int32 × Int32 × Int32 × (Nat → Int32))) (x1 : Int32) (x4 : Int32) (x6 : Int32) (j_made : Int32) (j_at : Int32) (j_fault : Int32) (j_fp : Int32) (jm_f : Nat → Int32) : Option (Int32 × Int32 × Int32 × Int32 × (Nat → Int32)) :=
  if j_end ≤ x6 then
    m_Mo_takeChunk_127 N j_end ji_f  x1 x4 j_made j_at j_fault j_fp jm_f
  else
    tp_gd (tp_inb x6 10000) <|
    tp_b2 (m_Mo_put (ji_f (Int32.toNatClampNeg x6)) j_made jm_f) fun j_made_11 jm_f_12 =>
    rec101 x1 x4 (x6 + (1 : Int32)) j_made_11 j_at j_fault j_fp jm_f_12
noncomputable def m_Mo_takeChunk_45 (N : Nat) (j_end : Int32) (ji_f : Nat → Int32) (x1 : Int32) (x4 : Int32) (k1 : Int32) (j_made : Int32) (j_at : Int32) (j_fault : Int32) (j_fp : Int32) (jm_f : Nat → Int32) : Option (Int32 × Int32 × Int32 × Int32 × (Nat → Int32)) :=
  tp_b5 (m_Mo_takeBlock N k1 j_made j_at j_end j_fault j_fp ji_f jm_f) fun j_made_31 j_at_32 j_fault_33 j_fp_34 jm_f_35 =>
  if j_fault_33 = (1 : Int32) then
    m_Mo_takeChunk_127 N j_end ji_f  x1 x4 j_made_31 j_at_32 (12 : Int32) j_fp_34 jm_f_35
  else
    m_Mo_takeChunk_127 N j_end ji_f  x1 x4 j_made_31 j_at_32 j_fault_33 j_fp_34 jm_f_35
noncomputable def m_Mo_takeChunk (N : Nat) (x1 : Int32) (x2 : Int32) (x3 : Int32) (j_made : Int32) (j_at : Int32) (j_end : Int32) (j_fault : Int32) (j_fp : Int32) (ji_f : Nat → Int32) (jm_f : Nat → Int32) : Option (Int32 × Int32 × Int32 × Int32 × (Nat → Int32)) :=
  if x2 ≤ (1 : Int32) then
    if x2 = 0 then
      if (65536 : Int32) ≤ (x3 - j_made) then
        m_Mo_takeChunk_45 N j_end ji_f  x1 j_made (65536 : Int32) j_made (x1 + (8 : Int32)) j_fault j_fp jm_f
      else
        m_Mo_takeChunk_45 N j_end ji_f  x1 j_made (x3 - j_made) j_made (x1 + (8 : Int32)) j_fault j_fp jm_f
    else
      if (j_end - (x1 + (8 : Int32))) ≤ (x3 - j_made) then
        tp_it8 (m_Mo_takeChunk_101 N j_end ji_f ) N x1 j_made (x1 + (8 : Int32)) j_made (x1 + (8 : Int32)) j_fault j_fp jm_f
      else
        tp_b3 (m_Mo_fails (3 : Int32) ((x1 + (8 : Int32)) + (x3 - j_made)) j_fault j_fp) fun r4 j_fault_5 j_fp_6 =>
        m_Mo_takeChunk_127 N j_end ji_f  x1 j_made j_made (x1 + (8 : Int32)) j_fault_5 j_fp_6 jm_f
  else
    some (j_made, j_at, j_fault, j_fp, jm_f)
section
variable {p : Program} {l : Launch} {e : Env} {s : State} {m : MethodId} {args : Array Value} {below : List Frame} {meth : Method} {c : Code} {A : Nat → Prop} {D : va_G} {cB cI : ClassId} {tM : Nat}
set_option maxHeartbeats 4000000 in
set_option maxRecDepth 100000 in
theorem w_Mo_takeChunk_127 {q_j q_ji q_jo q_jm q_jn q_jf : Nat} {j_in : Int32} {j_out : Int32} {j_known : Int32} {j_fat : Int32} {j_flong : Int32} {j_told : Int32} {j_end : Int32} {ji_f : Nat → Int32} {jo_f : Nat → Int32} {jn_f : Nat → Int32} {jf_f : Nat → Int32} {N : Nat} {j_made' : Int32} {j_at' : Int32} {j_fault' : Int32} {j_fp' : Int32} {jm_f' : Nat → Int32} (hF2 : tp_F p m c c_Mo_takeChunk 7 s args tpG R_Mo meth none) : ∀ (x1 : Int32) (x4 : Int32) (j_made : Int32) (j_at : Int32) (j_fault : Int32) (j_fp : Int32) (jm_f : Nat → Int32) (H : Heap) (locs : List Loc) (ls : Array Slot), m_Mo_takeChunk_127 N j_end ji_f  x1 x4 j_made j_at j_fault j_fp jm_f = some (j_made', j_at', j_fault', j_fp', jm_f') → tp_Wd D (tp_ty cB cI) tM A s H locs [(q_j, .inr (7, [.ref q_ji, .int j_in, .ref q_jo, .int j_out, .ref q_jm, .int j_made, .ref q_jn, .ref q_jf, .int j_known, .int j_fat, .int j_flong, .int j_told, .int j_at, .int j_end, .int j_fault, .int j_fp])), (q_ji, .inl (cB, 10000, .inl ji_f)), (q_jo, .inl (cB, 10000, .inl jo_f)), (q_jm, .inl (cB, 20000, .inl jm_f)), (q_jn, .inl (cI, 10001, .inl jn_f)), (q_jf, .inl (cI, 10001, .inl jf_f))] → lv_has ls 7 [(0, .ref q_j), (1, .int x1), (4, .int x4)] → W p l e rm_Mo_takeChunk s m args below meth c H locs 0 0 (MQ below (tp_Qv (S := Unit) D A (fun _ => [(q_j, .inr (7, [.ref q_ji, .int j_in, .ref q_jo, .int j_out, .ref q_jm, .int j_made', .ref q_jn, .ref q_jf, .int j_known, .int j_fat, .int j_flong, .int j_told, .int j_at', .int j_end, .int j_fault', .int j_fp'])), (q_ji, .inl (cB, 10000, .inl ji_f)), (q_jo, .inl (cB, 10000, .inl jo_f)), (q_jm, .inl (cB, 20000, .inl jm_f')), (q_jn, .inl (cI, 10001, .inl jn_f)), (q_jf, .inl (cI, 10001, .inl jf_f))])) args s 0 0 A) (F0 m 127 ls []) := by
  obtain ⟨hF, hr, hlocks⟩ := id hF2
  obtain ⟨hx, hb, hml, hown, hts⟩ := id hF
  intro x1 x4 j_made j_at j_fault j_fp jm_f H locs ls hm hw hl
  unfold m_Mo_takeChunk_127 at hm
  refine lv_aload_n hx hb d_Mo_takeChunk_127 rfl (lv_at hl 0 rfl) ?_
  refine tp_get (v := .int j_fault) (C := R_Mo) (T := T_Mo) hx hb hts fw_Mo hown hw 0 rfl rfl 14 (by decide +kernel) (hts _ wd_402) rfl d_Mo_takeChunk_128 ?_
  refine lv_if_eq (tgt := 135) hx hb d_Mo_takeChunk_131 (by decide +kernel) (fun hc14 => ?_) (fun hc14 => ?_)
  · replace hm := tp_it hc14 hm
    refine lv_aload_n hx hb d_Mo_takeChunk_135 rfl (lv_at hl 0 rfl) ?_
    refine lv_iload_n hx hb d_Mo_takeChunk_136 rfl (lv_at hl 1 rfl) ?_
    refine lv_iconst (v := (4 : Int32)) hx hb d_Mo_takeChunk_137 (by decide +kernel) ?_
    refine lv_iadd hx hb d_Mo_takeChunk_138 ?_
    obtain ⟨r15, hm16, hm⟩ := tp_b1_e hm
    refine tp_calli (wr := []) (WS' := [(q_j, .inr (7, [.ref q_ji, .int j_in, .ref q_jo, .int j_out, .ref q_jm, .int j_made, .ref q_jn, .ref q_jf, .int j_known, .int j_fat, .int j_flong, .int j_told, .int j_at, .int j_end, .int j_fault, .int j_fp])), (q_ji, .inl (cB, 10000, .inl ji_f)), (q_jo, .inl (cB, 10000, .inl jo_f)), (q_jm, .inl (cB, 20000, .inl jm_f)), (q_jn, .inl (cI, 10001, .inl jn_f)), (q_jf, .inl (cI, 10001, .inl jf_f))]) (va_runV (As := [.int (x1 + (4 : Int32))]) (rest := []) hF (ct_Mo_byteOf (l := l) (D := D) (cB := cB) (cI := cI) (tM := tM) (q_j := q_j) (q_ji := q_ji) (q_jo := q_jo) (q_jm := q_jm) (q_jn := q_jn) (q_jf := q_jf) (j_in := j_in) (j_out := j_out) (j_made := j_made) (j_known := j_known) (j_fat := j_fat) (j_flong := j_flong) (j_told := j_told) (j_at := j_at) (j_end := j_end) (j_fault := j_fault) (j_fp := j_fp) (ji_f := ji_f) (jo_f := jo_f) (jm_f := jm_f) (jn_f := jn_f) (jf_f := jf_f) (x1 := (x1 + (4 : Int32))) (r := r15) hm16 _) (cwV 1 hts (tpG_V wd_462 wd_463 wd_464 wd_340 wd_461) rfl rfl rfl ⟨rfl, yd_Mo_byteOf⟩ ⟨Nat.le_of_ble_eq_true rfl, Nat.le_of_ble_eq_true rfl⟩) ⟨tp_blind, va_recv hw.1 hw.2.1 (ci := 7) (q0 := 0) rfl rfl, tp_pre hw [0, 1, 2, 3, 4, 5] rfl rfl⟩ rfl rfl hl.1 rfl (lv_room (Nat.le_of_ble_eq_true rfl)) d_Mo_takeChunk_139 ⟨Nat.le_of_ble_eq_true rfl, Nat.le_of_ble_eq_true rfl⟩) hw [0, 1, 2, 3, 4, 5] [] [0, 1, 2, 3, 4, 5] rfl rfl rfl (by decide) rfl rfl (fun H locs hw => ?_)
    refine lv_aload_n hx hb d_Mo_takeChunk_142 rfl (lv_at hl 0 rfl) ?_
    refine lv_iload_n hx hb d_Mo_takeChunk_143 rfl (lv_at hl 1 rfl) ?_
    refine lv_iconst (v := (5 : Int32)) hx hb d_Mo_takeChunk_144 (by decide +kernel) ?_
    refine lv_iadd hx hb d_Mo_takeChunk_145 ?_
    obtain ⟨r17, hm18, hm⟩ := tp_b1_e hm
    refine tp_calli (wr := []) (WS' := [(q_j, .inr (7, [.ref q_ji, .int j_in, .ref q_jo, .int j_out, .ref q_jm, .int j_made, .ref q_jn, .ref q_jf, .int j_known, .int j_fat, .int j_flong, .int j_told, .int j_at, .int j_end, .int j_fault, .int j_fp])), (q_ji, .inl (cB, 10000, .inl ji_f)), (q_jo, .inl (cB, 10000, .inl jo_f)), (q_jm, .inl (cB, 20000, .inl jm_f)), (q_jn, .inl (cI, 10001, .inl jn_f)), (q_jf, .inl (cI, 10001, .inl jf_f))]) (va_runV (As := [.int (x1 + (5 : Int32))]) (rest := [.int r15]) hF (ct_Mo_byteOf (l := l) (D := D) (cB := cB) (cI := cI) (tM := tM) (q_j := q_j) (q_ji := q_ji) (q_jo := q_jo) (q_jm := q_jm) (q_jn := q_jn) (q_jf := q_jf) (j_in := j_in) (j_out := j_out) (j_made := j_made) (j_known := j_known) (j_fat := j_fat) (j_flong := j_flong) (j_told := j_told) (j_at := j_at) (j_end := j_end) (j_fault := j_fault) (j_fp := j_fp) (ji_f := ji_f) (jo_f := jo_f) (jm_f := jm_f) (jn_f := jn_f) (jf_f := jf_f) (x1 := (x1 + (5 : Int32))) (r := r17) hm18 _) (cwV 1 hts (tpG_V wd_462 wd_463 wd_464 wd_340 wd_461) rfl rfl rfl ⟨rfl, yd_Mo_byteOf⟩ ⟨Nat.le_of_ble_eq_true rfl, Nat.le_of_ble_eq_true rfl⟩) ⟨tp_blind, va_recv hw.1 hw.2.1 (ci := 7) (q0 := 0) rfl rfl, tp_pre hw [0, 1, 2, 3, 4, 5] rfl rfl⟩ rfl rfl hl.1 rfl (lv_room (Nat.le_of_ble_eq_true rfl)) d_Mo_takeChunk_146 ⟨Nat.le_of_ble_eq_true rfl, Nat.le_of_ble_eq_true rfl⟩) hw [0, 1, 2, 3, 4, 5] [] [0, 1, 2, 3, 4, 5] rfl rfl rfl (by decide) rfl rfl (fun H locs hw => ?_)
    refine lv_bipush (v := (8 : Int32)) hx hb d_Mo_takeChunk_149 (by decide +kernel) ?_
    refine lv_ishl hx hb d_Mo_takeChunk_151 ?_
    refine lv_ior hx hb d_Mo_takeChunk_152 ?_
    refine lv_aload_n hx hb d_Mo_takeChunk_153 rfl (lv_at hl 0 rfl) ?_
    refine lv_iload_n hx hb d_Mo_takeChunk_154 rfl (lv_at hl 1 rfl) ?_
    refine lv_bipush (v := (6 : Int32)) hx hb d_Mo_takeChunk_155 (by decide +kernel) ?_
    refine lv_iadd hx hb d_Mo_takeChunk_157 ?_
    obtain ⟨r19, hm20, hm⟩ := tp_b1_e hm
    refine tp_calli (wr := []) (WS' := [(q_j, .inr (7, [.ref q_ji, .int j_in, .ref q_jo, .int j_out, .ref q_jm, .int j_made, .ref q_jn, .ref q_jf, .int j_known, .int j_fat, .int j_flong, .int j_told, .int j_at, .int j_end, .int j_fault, .int j_fp])), (q_ji, .inl (cB, 10000, .inl ji_f)), (q_jo, .inl (cB, 10000, .inl jo_f)), (q_jm, .inl (cB, 20000, .inl jm_f)), (q_jn, .inl (cI, 10001, .inl jn_f)), (q_jf, .inl (cI, 10001, .inl jf_f))]) (va_runV (As := [.int (x1 + (6 : Int32))]) (rest := [.int (r15 ||| (r17 <<< ((8 : Int32) &&& 31)))]) hF (ct_Mo_byteOf (l := l) (D := D) (cB := cB) (cI := cI) (tM := tM) (q_j := q_j) (q_ji := q_ji) (q_jo := q_jo) (q_jm := q_jm) (q_jn := q_jn) (q_jf := q_jf) (j_in := j_in) (j_out := j_out) (j_made := j_made) (j_known := j_known) (j_fat := j_fat) (j_flong := j_flong) (j_told := j_told) (j_at := j_at) (j_end := j_end) (j_fault := j_fault) (j_fp := j_fp) (ji_f := ji_f) (jo_f := jo_f) (jm_f := jm_f) (jn_f := jn_f) (jf_f := jf_f) (x1 := (x1 + (6 : Int32))) (r := r19) hm20 _) (cwV 1 hts (tpG_V wd_462 wd_463 wd_464 wd_340 wd_461) rfl rfl rfl ⟨rfl, yd_Mo_byteOf⟩ ⟨Nat.le_of_ble_eq_true rfl, Nat.le_of_ble_eq_true rfl⟩) ⟨tp_blind, va_recv hw.1 hw.2.1 (ci := 7) (q0 := 0) rfl rfl, tp_pre hw [0, 1, 2, 3, 4, 5] rfl rfl⟩ rfl rfl hl.1 rfl (lv_room (Nat.le_of_ble_eq_true rfl)) d_Mo_takeChunk_158 ⟨Nat.le_of_ble_eq_true rfl, Nat.le_of_ble_eq_true rfl⟩) hw [0, 1, 2, 3, 4, 5] [] [0, 1, 2, 3, 4, 5] rfl rfl rfl (by decide) rfl rfl (fun H locs hw => ?_)
    refine lv_bipush (v := (16 : Int32)) hx hb d_Mo_takeChunk_161 (by decide +kernel) ?_
    refine lv_ishl hx hb d_Mo_takeChunk_163 ?_
    refine lv_ior hx hb d_Mo_takeChunk_164 ?_
    refine lv_aload_n hx hb d_Mo_takeChunk_165 rfl (lv_at hl 0 rfl) ?_
    refine lv_iload_n hx hb d_Mo_takeChunk_166 rfl (lv_at hl 1 rfl) ?_
    refine lv_bipush (v := (7 : Int32)) hx hb d_Mo_takeChunk_167 (by decide +kernel) ?_
    refine lv_iadd hx hb d_Mo_takeChunk_169 ?_
    obtain ⟨r21, hm22, hm⟩ := tp_b1_e hm
    refine tp_calli (wr := []) (WS' := [(q_j, .inr (7, [.ref q_ji, .int j_in, .ref q_jo, .int j_out, .ref q_jm, .int j_made, .ref q_jn, .ref q_jf, .int j_known, .int j_fat, .int j_flong, .int j_told, .int j_at, .int j_end, .int j_fault, .int j_fp])), (q_ji, .inl (cB, 10000, .inl ji_f)), (q_jo, .inl (cB, 10000, .inl jo_f)), (q_jm, .inl (cB, 20000, .inl jm_f)), (q_jn, .inl (cI, 10001, .inl jn_f)), (q_jf, .inl (cI, 10001, .inl jf_f))]) (va_runV (As := [.int (x1 + (7 : Int32))]) (rest := [.int ((r15 ||| (r17 <<< ((8 : Int32) &&& 31))) ||| (r19 <<< ((16 : Int32) &&& 31)))]) hF (ct_Mo_byteOf (l := l) (D := D) (cB := cB) (cI := cI) (tM := tM) (q_j := q_j) (q_ji := q_ji) (q_jo := q_jo) (q_jm := q_jm) (q_jn := q_jn) (q_jf := q_jf) (j_in := j_in) (j_out := j_out) (j_made := j_made) (j_known := j_known) (j_fat := j_fat) (j_flong := j_flong) (j_told := j_told) (j_at := j_at) (j_end := j_end) (j_fault := j_fault) (j_fp := j_fp) (ji_f := ji_f) (jo_f := jo_f) (jm_f := jm_f) (jn_f := jn_f) (jf_f := jf_f) (x1 := (x1 + (7 : Int32))) (r := r21) hm22 _) (cwV 1 hts (tpG_V wd_462 wd_463 wd_464 wd_340 wd_461) rfl rfl rfl ⟨rfl, yd_Mo_byteOf⟩ ⟨Nat.le_of_ble_eq_true rfl, Nat.le_of_ble_eq_true rfl⟩) ⟨tp_blind, va_recv hw.1 hw.2.1 (ci := 7) (q0 := 0) rfl rfl, tp_pre hw [0, 1, 2, 3, 4, 5] rfl rfl⟩ rfl rfl hl.1 rfl (lv_room (Nat.le_of_ble_eq_true rfl)) d_Mo_takeChunk_170 ⟨Nat.le_of_ble_eq_true rfl, Nat.le_of_ble_eq_true rfl⟩) hw [0, 1, 2, 3, 4, 5] [] [0, 1, 2, 3, 4, 5] rfl rfl rfl (by decide) rfl rfl (fun H locs hw => ?_)
    refine lv_bipush (v := (24 : Int32)) hx hb d_Mo_takeChunk_173 (by decide +kernel) ?_
    refine lv_ishl hx hb d_Mo_takeChunk_175 ?_
    refine lv_ior hx hb d_Mo_takeChunk_176 ?_
    obtain ⟨y23, ey23, hm⟩ := tp_b0_e hm
    refine tp_topi ey23 ?_
    refine lv_istore (lv' := [(6, .int y23), (0, .ref q_j), (1, .int x1), (4, .int x4)]) hx hb d_Mo_takeChunk_177 hl (by decide +kernel) rfl (fun ls hl => ?_)
    refine lv_aload_n hx hb d_Mo_takeChunk_179 rfl (lv_at hl 1 rfl) ?_
    refine tp_get (v := .ref q_jm) (C := R_Mo) (T := T_Mo) hx hb hts fw_Mo hown hw 0 rfl rfl 4 (by decide +kernel) (hts _ wd_338) rfl d_Mo_takeChunk_180 ?_
    refine lv_iload hx hb d_Mo_takeChunk_183 (lv_at hl 3 rfl) ?_
    refine lv_aload_n hx hb d_Mo_takeChunk_185 rfl (lv_at hl 1 rfl) ?_
    refine tp_get (v := .int j_made) (C := R_Mo) (T := T_Mo) hx hb hts fw_Mo hown hw 0 rfl rfl 5 (by decide +kernel) (hts _ wd_337) rfl d_Mo_takeChunk_186 ?_
    obtain ⟨r24, hm25, hm⟩ := tp_b1_e hm
    refine tp_calli (wr := [(q_j, .inr (7, [.ref q_ji, .int j_in, .ref q_jo, .int j_out, .ref q_jm, .int j_made, .ref q_jn, .ref q_jf, .int j_known, .int j_fat, .int j_flong, .int j_told, .int j_at, .int j_end, .int j_fault, .int j_fp])), (q_ji, .inl (cB, 10000, .inl ji_f)), (q_jo, .inl (cB, 10000, .inl jo_f)), (q_jn, .inl (cI, 10001, .inl jn_f)), (q_jf, .inl (cI, 10001, .inl jf_f))]) (WS' := [(q_j, .inr (7, [.ref q_ji, .int j_in, .ref q_jo, .int j_out, .ref q_jm, .int j_made, .ref q_jn, .ref q_jf, .int j_known, .int j_fat, .int j_flong, .int j_told, .int j_at, .int j_end, .int j_fault, .int j_fp])), (q_ji, .inl (cB, 10000, .inl ji_f)), (q_jo, .inl (cB, 10000, .inl jo_f)), (q_jm, .inl (cB, 20000, .inl jm_f)), (q_jn, .inl (cI, 10001, .inl jn_f)), (q_jf, .inl (cI, 10001, .inl jf_f))]) (va_runS (As := [.ref q_jm, .int x4, .int j_made]) (rest := []) hF (ct_Mo_sumOf (l := l) (D := D) (cB := cB) (cI := cI) (tM := tM) (q_z := q_jm) (z_f := jm_f) (z_n := 20000) (x1 := x4) (x2 := j_made) (N := N) (r := r24) hm25 _) (va_cwS 3 hts (tpG_S wd_452 wd_453 wd_340 wd_451) rfl rfl rfl yd_Mo_sumOf ⟨Nat.le_of_ble_eq_true rfl, Nat.le_of_ble_eq_true rfl⟩) ⟨tp_blind, tp_pre hw [3] rfl rfl⟩ rfl rfl hl.1 rfl (lv_room (Nat.le_of_ble_eq_true rfl)) d_Mo_takeChunk_189 ⟨Nat.le_of_ble_eq_true rfl, Nat.le_of_ble_eq_true rfl⟩) hw [3] [0, 1, 2, 4, 5] [0, 1, 2, 5, 3, 4] rfl rfl rfl (by decide) rfl rfl (fun H locs hw => ?_)
    refine lv_iload hx hb d_Mo_takeChunk_192 (lv_at hl 0 rfl) ?_
    refine lv_icmp_eq (tgt := 207) hx hb d_Mo_takeChunk_194 (by decide +kernel) (fun hc26 => ?_) (fun hc26 => ?_)
    · replace hm := tp_it hc26 hm
      obtain ⟨rfl, rfl, rfl, rfl, rfl⟩ := tp_inj5 hm
      exact tp_vret () hx hb hr hlocks hw d_Mo_takeChunk_207
    · replace hm := tp_if hc26 hm
      refine lv_aload_n hx hb d_Mo_takeChunk_197 rfl (lv_at hl 1 rfl) ?_
      refine lv_bipush (v := (11 : Int32)) hx hb d_Mo_takeChunk_198 (by decide +kernel) ?_
      refine lv_iload_n hx hb d_Mo_takeChunk_200 rfl (lv_at hl 2 rfl) ?_
      refine lv_iconst (v := (4 : Int32)) hx hb d_Mo_takeChunk_201 (by decide +kernel) ?_
      refine lv_iadd hx hb d_Mo_takeChunk_202 ?_
      obtain ⟨r27, j_fault_28, j_fp_29, hm30, hm⟩ := tp_b3_e hm
      refine tp_calli (wr := []) (WS' := [(q_j, .inr (7, [.ref q_ji, .int j_in, .ref q_jo, .int j_out, .ref q_jm, .int j_made, .ref q_jn, .ref q_jf, .int j_known, .int j_fat, .int j_flong, .int j_told, .int j_at, .int j_end, .int j_fault_28, .int j_fp_29])), (q_ji, .inl (cB, 10000, .inl ji_f)), (q_jo, .inl (cB, 10000, .inl jo_f)), (q_jm, .inl (cB, 20000, .inl jm_f)), (q_jn, .inl (cI, 10001, .inl jn_f)), (q_jf, .inl (cI, 10001, .inl jf_f))]) (va_runV (As := [.int (11 : Int32), .int (x1 + (4 : Int32))]) (rest := []) hF (ct_Mo_fails (l := l) (D := D) (cB := cB) (cI := cI) (tM := tM) (q_j := q_j) (q_ji := q_ji) (q_jo := q_jo) (q_jm := q_jm) (q_jn := q_jn) (q_jf := q_jf) (j_in := j_in) (j_out := j_out) (j_made := j_made) (j_known := j_known) (j_fat := j_fat) (j_flong := j_flong) (j_told := j_told) (j_at := j_at) (j_end := j_end) (j_fault := j_fault) (j_fp := j_fp) (ji_f := ji_f) (jo_f := jo_f) (jm_f := jm_f) (jn_f := jn_f) (jf_f := jf_f) (x1 := (11 : Int32)) (x2 := (x1 + (4 : Int32))) (r := r27) (j_fault' := j_fault_28) (j_fp' := j_fp_29) hm30 _) (cwV 2 hts (tpG_V wd_409 wd_410 wd_411 wd_340 wd_408) rfl rfl rfl ⟨rfl, yd_Mo_fails⟩ ⟨Nat.le_of_ble_eq_true rfl, Nat.le_of_ble_eq_true rfl⟩) ⟨tp_blind, va_recv hw.1 hw.2.1 (ci := 7) (q0 := 0) rfl rfl, tp_pre hw [0, 1, 2, 3, 4, 5] rfl rfl⟩ rfl rfl hl.1 rfl (lv_room (Nat.le_of_ble_eq_true rfl)) d_Mo_takeChunk_203 ⟨Nat.le_of_ble_eq_true rfl, Nat.le_of_ble_eq_true rfl⟩) hw [0, 1, 2, 3, 4, 5] [] [0, 1, 2, 3, 4, 5] rfl rfl rfl (by decide) rfl rfl (fun H locs hw => ?_)
      refine lv_pop hx hb d_Mo_takeChunk_206 rfl ?_
      obtain ⟨rfl, rfl, rfl, rfl, rfl⟩ := tp_inj5 hm
      exact tp_vret () hx hb hr hlocks hw d_Mo_takeChunk_207
  · replace hm := tp_if hc14 hm
    obtain ⟨rfl, rfl, rfl, rfl, rfl⟩ := tp_inj5 hm
    exact tp_vret () hx hb hr hlocks hw d_Mo_takeChunk_134
set_option maxHeartbeats 4000000 in
set_option maxRecDepth 100000 in
theorem w_Mo_takeChunk_101 {q_j q_ji q_jo q_jm q_jn q_jf : Nat} {j_in : Int32} {j_out : Int32} {j_known : Int32} {j_fat : Int32} {j_flong : Int32} {j_told : Int32} {j_end : Int32} {ji_f : Nat → Int32} {jo_f : Nat → Int32} {jn_f : Nat → Int32} {jf_f : Nat → Int32} {N : Nat} {j_made' : Int32} {j_at' : Int32} {j_fault' : Int32} {j_fp' : Int32} {jm_f' : Nat → Int32} (hF2 : tp_F p m c c_Mo_takeChunk 7 s args tpG R_Mo meth none) : ∀ (n : Nat), ∀ (x1 : Int32) (x4 : Int32) (x6 : Int32) (j_made : Int32) (j_at : Int32) (j_fault : Int32) (j_fp : Int32) (jm_f : Nat → Int32) (H : Heap) (locs : List Loc) (ls : Array Slot), tp_it8 (m_Mo_takeChunk_101 N j_end ji_f ) n x1 x4 x6 j_made j_at j_fault j_fp jm_f = some (j_made', j_at', j_fault', j_fp', jm_f') → tp_Wd D (tp_ty cB cI) tM A s H locs [(q_j, .inr (7, [.ref q_ji, .int j_in, .ref q_jo, .int j_out, .ref q_jm, .int j_made, .ref q_jn, .ref q_jf, .int j_known, .int j_fat, .int j_flong, .int j_told, .int j_at, .int j_end, .int j_fault, .int j_fp])), (q_ji, .inl (cB, 10000, .inl ji_f)), (q_jo, .inl (cB, 10000, .inl jo_f)), (q_jm, .inl (cB, 20000, .inl jm_f)), (q_jn, .inl (cI, 10001, .inl jn_f)), (q_jf, .inl (cI, 10001, .inl jf_f))] → lv_has ls 7 [(0, .ref q_j), (1, .int x1), (4, .int x4), (6, .int x6)] → W p l e rm_Mo_takeChunk s m args below meth c H locs 0 0 (MQ below (tp_Qv (S := Unit) D A (fun _ => [(q_j, .inr (7, [.ref q_ji, .int j_in, .ref q_jo, .int j_out, .ref q_jm, .int j_made', .ref q_jn, .ref q_jf, .int j_known, .int j_fat, .int j_flong, .int j_told, .int j_at', .int j_end, .int j_fault', .int j_fp'])), (q_ji, .inl (cB, 10000, .inl ji_f)), (q_jo, .inl (cB, 10000, .inl jo_f)), (q_jm, .inl (cB, 20000, .inl jm_f')), (q_jn, .inl (cI, 10001, .inl jn_f)), (q_jf, .inl (cI, 10001, .inl jf_f))])) args s 0 0 A) (F0 m 101 ls []) := by
  obtain ⟨hF, hr, hlocks⟩ := id hF2
  obtain ⟨hx, hb, hml, hown, hts⟩ := id hF
  intro n
  induction n with
  | zero => intro x1 x4 x6 j_made j_at j_fault j_fp jm_f H locs ls hm; exact absurd hm (by simp [tp_it8])
  | succ n ih101 =>
    intro x1 x4 x6 j_made j_at j_fault j_fp jm_f H locs ls hm hw hl
    replace hm : m_Mo_takeChunk_101 N j_end ji_f  (tp_it8 (m_Mo_takeChunk_101 N j_end ji_f ) n) x1 x4 x6 j_made j_at j_fault j_fp jm_f = some (j_made', j_at', j_fault', j_fp', jm_f') := hm
    unfold m_Mo_takeChunk_101 at hm
    refine lv_iload hx hb d_Mo_takeChunk_101 (lv_at hl 3 rfl) ?_
    refine lv_aload_n hx hb d_Mo_takeChunk_103 rfl (lv_at hl 0 rfl) ?_
    refine tp_get (v := .int j_end) (C := R_Mo) (T := T_Mo) hx hb hts fw_Mo hown hw 0 rfl rfl 13 (by decide +kernel) (hts _ wd_406) rfl d_Mo_takeChunk_104 ?_
    refine lv_icmp_ge (tgt := 127) hx hb d_Mo_takeChunk_107 (by decide +kernel) (fun hc9 => ?_) (fun hc9 => ?_)
    · replace hm := tp_it hc9 hm
      exact w_Mo_takeChunk_127 hF2  _ _ _ _ _ _ _ _ _ _ hm hw (lv_sub hl [0, 1, 2] rfl)
    · replace hm := tp_if hc9 hm
      refine lv_aload_n hx hb d_Mo_takeChunk_110 rfl (lv_at hl 0 rfl) ?_
      refine lv_aload_n hx hb d_Mo_takeChunk_111 rfl (lv_at hl 0 rfl) ?_
      refine tp_get (v := .ref q_ji) (C := R_Mo) (T := T_Mo) hx hb hts fw_Mo hown hw 0 rfl rfl 0 (by decide +kernel) (hts _ wd_333) rfl d_Mo_takeChunk_112 ?_
      refine lv_iload hx hb d_Mo_takeChunk_115 (lv_at hl 3 rfl) ?_
      obtain ⟨hi10, hm⟩ := tp_gd_e hm
      refine tp_bald hx hb hw 1 0 rfl rfl hi10 d_Mo_takeChunk_117 ?_
      obtain ⟨j_made_11, jm_f_12, hm13, hm⟩ := tp_b2_e hm
      refine tp_callv (wr := []) (WS' := [(q_j, .inr (7, [.ref q_ji, .int j_in, .ref q_jo, .int j_out, .ref q_jm, .int j_made_11, .ref q_jn, .ref q_jf, .int j_known, .int j_fat, .int j_flong, .int j_told, .int j_at, .int j_end, .int j_fault, .int j_fp])), (q_ji, .inl (cB, 10000, .inl ji_f)), (q_jo, .inl (cB, 10000, .inl jo_f)), (q_jm, .inl (cB, 20000, .inl jm_f_12)), (q_jn, .inl (cI, 10001, .inl jn_f)), (q_jf, .inl (cI, 10001, .inl jf_f))]) (va_runV (As := [.int (ji_f (Int32.toNatClampNeg x6))]) (rest := []) hF (ct_Mo_put (l := l) (D := D) (cB := cB) (cI := cI) (tM := tM) (q_j := q_j) (q_ji := q_ji) (q_jo := q_jo) (q_jm := q_jm) (q_jn := q_jn) (q_jf := q_jf) (j_in := j_in) (j_out := j_out) (j_made := j_made) (j_known := j_known) (j_fat := j_fat) (j_flong := j_flong) (j_told := j_told) (j_at := j_at) (j_end := j_end) (j_fault := j_fault) (j_fp := j_fp) (ji_f := ji_f) (jo_f := jo_f) (jm_f := jm_f) (jn_f := jn_f) (jf_f := jf_f) (x1 := (ji_f (Int32.toNatClampNeg x6))) (j_made' := j_made_11) (jm_f' := jm_f_12) hm13 _) (cwV 1 hts (tpG_V wd_341 wd_342 wd_343 wd_340 wd_339) rfl rfl rfl ⟨rfl, yd_Mo_put⟩ ⟨Nat.le_of_ble_eq_true rfl, Nat.le_of_ble_eq_true rfl⟩) ⟨tp_blind, va_recv hw.1 hw.2.1 (ci := 7) (q0 := 0) rfl rfl, tp_pre hw [0, 1, 2, 3, 4, 5] rfl rfl⟩ rfl rfl hl.1 rfl (lv_room (Nat.le_of_ble_eq_true rfl)) d_Mo_takeChunk_118 ⟨Nat.le_of_ble_eq_true rfl, Nat.le_of_ble_eq_true rfl⟩) hw [0, 1, 2, 3, 4, 5] [] [0, 1, 2, 3, 4, 5] rfl rfl rfl (by decide) rfl rfl (fun H locs hw => ?_)
      refine lv_iinc (v := (x6 + (1 : Int32))) (lv' := [(6, .int (x6 + (1 : Int32))), (0, .ref q_j), (1, .int x1), (4, .int x4)]) hx hb d_Mo_takeChunk_121 hl (k := 3) rfl rfl (by decide +kernel) rfl (fun ls hl => ?_)
      refine lv_goto (tgt := 101) hx hb d_Mo_takeChunk_124 (by decide +kernel) ?_
      exact ih101 _ _ _ _ _ _ _ _ _ _ _ hm hw (lv_sub hl [1, 2, 3, 0] rfl)
set_option maxHeartbeats 4000000 in
set_option maxRecDepth 100000 in
theorem w_Mo_takeChunk_45 {q_j q_ji q_jo q_jm q_jn q_jf : Nat} {j_in : Int32} {j_out : Int32} {j_known : Int32} {j_fat : Int32} {j_flong : Int32} {j_told : Int32} {j_end : Int32} {ji_f : Nat → Int32} {jo_f : Nat → Int32} {jn_f : Nat → Int32} {jf_f : Nat → Int32} {N : Nat} {j_made' : Int32} {j_at' : Int32} {j_fault' : Int32} {j_fp' : Int32} {jm_f' : Nat → Int32} (hF2 : tp_F p m c c_Mo_takeChunk 7 s args tpG R_Mo meth none) : ∀ (x1 : Int32) (x4 : Int32) (k1 : Int32) (j_made : Int32) (j_at : Int32) (j_fault : Int32) (j_fp : Int32) (jm_f : Nat → Int32) (H : Heap) (locs : List Loc) (ls : Array Slot), m_Mo_takeChunk_45 N j_end ji_f  x1 x4 k1 j_made j_at j_fault j_fp jm_f = some (j_made', j_at', j_fault', j_fp', jm_f') → tp_Wd D (tp_ty cB cI) tM A s H locs [(q_j, .inr (7, [.ref q_ji, .int j_in, .ref q_jo, .int j_out, .ref q_jm, .int j_made, .ref q_jn, .ref q_jf, .int j_known, .int j_fat, .int j_flong, .int j_told, .int j_at, .int j_end, .int j_fault, .int j_fp])), (q_ji, .inl (cB, 10000, .inl ji_f)), (q_jo, .inl (cB, 10000, .inl jo_f)), (q_jm, .inl (cB, 20000, .inl jm_f)), (q_jn, .inl (cI, 10001, .inl jn_f)), (q_jf, .inl (cI, 10001, .inl jf_f))] → lv_has ls 7 [(0, .ref q_j), (1, .int x1), (4, .int x4)] → W p l e rm_Mo_takeChunk s m args below meth c H locs 0 0 (MQ below (tp_Qv (S := Unit) D A (fun _ => [(q_j, .inr (7, [.ref q_ji, .int j_in, .ref q_jo, .int j_out, .ref q_jm, .int j_made', .ref q_jn, .ref q_jf, .int j_known, .int j_fat, .int j_flong, .int j_told, .int j_at', .int j_end, .int j_fault', .int j_fp'])), (q_ji, .inl (cB, 10000, .inl ji_f)), (q_jo, .inl (cB, 10000, .inl jo_f)), (q_jm, .inl (cB, 20000, .inl jm_f')), (q_jn, .inl (cI, 10001, .inl jn_f)), (q_jf, .inl (cI, 10001, .inl jf_f))])) args s 0 0 A) (F0 m 45 ls [.int k1, .ref q_j]) := by
  obtain ⟨hF, hr, hlocks⟩ := id hF2
  obtain ⟨hx, hb, hml, hown, hts⟩ := id hF
  intro x1 x4 k1 j_made j_at j_fault j_fp jm_f H locs ls hm hw hl
  unfold m_Mo_takeChunk_45 at hm
  obtain ⟨j_made_31, j_at_32, j_fault_33, j_fp_34, jm_f_35, hm36, hm⟩ := tp_b5_e hm
  refine tp_callv (wr := []) (WS' := [(q_j, .inr (7, [.ref q_ji, .int j_in, .ref q_jo, .int j_out, .ref q_jm, .int j_made_31, .ref q_jn, .ref q_jf, .int j_known, .int j_fat, .int j_flong, .int j_told, .int j_at_32, .int j_end, .int j_fault_33, .int j_fp_34])), (q_ji, .inl (cB, 10000, .inl ji_f)), (q_jo, .inl (cB, 10000, .inl jo_f)), (q_jm, .inl (cB, 20000, .inl jm_f_35)), (q_jn, .inl (cI, 10001, .inl jn_f)), (q_jf, .inl (cI, 10001, .inl jf_f))]) (va_runV (As := [.int k1]) (rest := []) hF (ct_Mo_takeBlock (l := l) (D := D) (cB := cB) (cI := cI) (tM := tM) (q_j := q_j) (q_ji := q_ji) (q_jo := q_jo) (q_jm := q_jm) (q_jn := q_jn) (q_jf := q_jf) (j_in := j_in) (j_out := j_out) (j_made := j_made) (j_known := j_known) (j_fat := j_fat) (j_flong := j_flong) (j_told := j_told) (j_at := j_at) (j_end := j_end) (j_fault := j_fault) (j_fp := j_fp) (ji_f := ji_f) (jo_f := jo_f) (jm_f := jm_f) (jn_f := jn_f) (jf_f := jf_f) (x1 := k1) (N := N) (j_made' := j_made_31) (j_at' := j_at_32) (j_fault' := j_fault_33) (j_fp' := j_fp_34) (jm_f' := jm_f_35) hm36 _) (cwV 1 hts (tpG_V wd_442 wd_443 wd_444 wd_340 wd_441) rfl rfl rfl ⟨rfl, yd_Mo_takeBlock⟩ ⟨Nat.le_of_ble_eq_true rfl, Nat.le_of_ble_eq_true rfl⟩) ⟨tp_blind, va_recv hw.1 hw.2.1 (ci := 7) (q0 := 0) rfl rfl, tp_pre hw [0, 1, 2, 3, 4, 5] rfl rfl⟩ rfl rfl hl.1 rfl (lv_room (Nat.le_of_ble_eq_true rfl)) d_Mo_takeChunk_45 ⟨Nat.le_of_ble_eq_true rfl, Nat.le_of_ble_eq_true rfl⟩) hw [0, 1, 2, 3, 4, 5] [] [0, 1, 2, 3, 4, 5] rfl rfl rfl (by decide) rfl rfl (fun H locs hw => ?_)
  refine lv_aload_n hx hb d_Mo_takeChunk_48 rfl (lv_at hl 0 rfl) ?_
  refine tp_get (v := .int j_fault_33) (C := R_Mo) (T := T_Mo) hx hb hts fw_Mo hown hw 0 rfl rfl 14 (by decide +kernel) (hts _ wd_402) rfl d_Mo_takeChunk_49 ?_
  refine lv_iconst (v := (1 : Int32)) hx hb d_Mo_takeChunk_52 (by decide +kernel) ?_
  refine lv_icmp_ne (tgt := 127) hx hb d_Mo_takeChunk_53 (by decide +kernel) (fun hc37 => ?_) (fun hc37 => ?_)
  · replace hm := tp_if hc37 hm
    exact w_Mo_takeChunk_127 hF2  _ _ _ _ _ _ _ _ _ _ hm hw (lv_sub hl [0, 1, 2] rfl)
  · replace hm := tp_it hc37 hm
    refine lv_aload_n hx hb d_Mo_takeChunk_56 rfl (lv_at hl 0 rfl) ?_
    refine lv_bipush (v := (12 : Int32)) hx hb d_Mo_takeChunk_57 (by decide +kernel) ?_
    refine tp_put (v := .int (12 : Int32)) (C := R_Mo) (T := T_Mo) (WS' := [(q_j, .inr (7, [.ref q_ji, .int j_in, .ref q_jo, .int j_out, .ref q_jm, .int j_made_31, .ref q_jn, .ref q_jf, .int j_known, .int j_fat, .int j_flong, .int j_told, .int j_at_32, .int j_end, .int (12 : Int32), .int j_fp_34])), (q_ji, .inl (cB, 10000, .inl ji_f)), (q_jo, .inl (cB, 10000, .inl jo_f)), (q_jm, .inl (cB, 20000, .inl jm_f_35)), (q_jn, .inl (cI, 10001, .inl jn_f)), (q_jf, .inl (cI, 10001, .inl jf_f))]) hx hb hts fw_Mo ty_Mo ty_Mo_ok nm_Mo hown hw 0 rfl rfl 14 (by decide +kernel) (hts _ wd_402) rfl rfl rfl (Nat.le_of_ble_eq_true rfl) rfl d_Mo_takeChunk_59 (fun H locs hw => ?_)
    refine lv_goto (tgt := 127) hx hb d_Mo_takeChunk_62 (by decide +kernel) ?_
    exact w_Mo_takeChunk_127 hF2  _ _ _ _ _ _ _ _ _ _ hm hw (lv_sub hl [0, 1, 2] rfl)
set_option maxHeartbeats 4000000 in
set_option maxRecDepth 100000 in
theorem ct_Mo_takeChunk {q_j q_ji q_jo q_jm q_jn q_jf : Nat} {j_in : Int32} {j_out : Int32} {j_made : Int32} {j_known : Int32} {j_fat : Int32} {j_flong : Int32} {j_told : Int32} {j_at : Int32} {j_end : Int32} {j_fault : Int32} {j_fp : Int32} {ji_f : Nat → Int32} {jo_f : Nat → Int32} {jm_f : Nat → Int32} {jn_f : Nat → Int32} {jf_f : Nat → Int32} {N : Nat} {x1 : Int32} {x2 : Int32} {x3 : Int32} {j_made' : Int32} {j_at' : Int32} {j_fault' : Int32} {j_fp' : Int32} {jm_f' : Nat → Int32} (hm : m_Mo_takeChunk N x1 x2 x3 j_made j_at j_end j_fault j_fp ji_f jm_f = some (j_made', j_at', j_fault', j_fp', jm_f')) (sz : Nat) : tp_Cv l y_Mo_takeChunk ws_Mo_takeChunk rm_Mo_takeChunk D (tp_ty cB cI) tM [.ref q_j, .int x1, .int x2, .int x3] [(q_j, .inr (7, [.ref q_ji, .int j_in, .ref q_jo, .int j_out, .ref q_jm, .int j_made, .ref q_jn, .ref q_jf, .int j_known, .int j_fat, .int j_flong, .int j_told, .int j_at, .int j_end, .int j_fault, .int j_fp])), (q_ji, .inl (cB, 10000, .inl ji_f)), (q_jo, .inl (cB, 10000, .inl jo_f)), (q_jm, .inl (cB, 20000, .inl jm_f)), (q_jn, .inl (cI, 10001, .inl jn_f)), (q_jf, .inl (cI, 10001, .inl jf_f))] sz [(q_j, .inr (7, [.ref q_ji, .int j_in, .ref q_jo, .int j_out, .ref q_jm, .int j_made', .ref q_jn, .ref q_jf, .int j_known, .int j_fat, .int j_flong, .int j_told, .int j_at', .int j_end, .int j_fault', .int j_fp'])), (q_ji, .inl (cB, 10000, .inl ji_f)), (q_jo, .inl (cB, 10000, .inl jo_f)), (q_jm, .inl (cB, 20000, .inl jm_f')), (q_jn, .inl (cI, 10001, .inl jn_f)), (q_jf, .inl (cI, 10001, .inl jf_f))] := by
  refine Met.ofW (cc := c_Mo_takeChunk) (maxL := 7) (ret := none) (by decide) rfl ?_
  intro p e s m args below meth c s₁ B hml hv
  obtain ⟨rfl, hv⟩ := hv
  have hw := tp_entry hv
  generalize va_A [(q_j, .inr (7, [.ref q_ji, .int j_in, .ref q_jo, .int j_out, .ref q_jm, .int j_made, .ref q_jn, .ref q_jf, .int j_known, .int j_fat, .int j_flong, .int j_told, .int j_at, .int j_end, .int j_fault, .int j_fp])), (q_ji, .inl (cB, 10000, .inl ji_f)), (q_jo, .inl (cB, 10000, .inl jo_f)), (q_jm, .inl (cB, 20000, .inl jm_f)), (q_jn, .inl (cI, 10001, .inl jn_f)), (q_jf, .inl (cI, 10001, .inl jf_f))] sz = A at hw ⊢
  have hx := B.exec
  have hb := B.bytes
  have hr := B.returns
  have hts0 := atoms_spec (ws := ws_Mo_takeChunk) B.pre
  have hts := fun w h => hts0 w (List.mem_cons_of_mem _ h)
  have hown : s.vm.findClass R_Mo = some m.cls := findClass_of_methodNamed B.named
  have hlocks := B.notSynchronized
  have hF : CallFix p m c c_Mo_takeChunk 7 s _ tpG R_Mo := ⟨hx, hb, hml, hown, hts⟩
  have hF2 : tp_F p m c c_Mo_takeChunk 7 s _ tpG R_Mo meth none := ⟨hF, hr, hlocks⟩
  have hl := lv_entry ([.ref q_j, .int x1, .int x2, .int x3]) (n := 7) (Nat.le_of_ble_eq_true rfl)
  rw [lg_entry_eq]
  generalize (lg_sl ([.ref q_j, .int x1, .int x2, .int x3]) ++ List.replicate (7 - (lg_sl ([.ref q_j, .int x1, .int x2, .int x3])).length) Slot.unset).toArray = ls at hl ⊢
  replace hl : lv_has ls 7 [(0, .ref q_j), (1, .int x1), (2, .int x2), (3, .int x3)] := hl
  unfold m_Mo_takeChunk at hm
  refine lv_iload_n hx hb d_Mo_takeChunk_0 rfl (lv_at hl 2 rfl) ?_
  refine lv_iconst (v := (1 : Int32)) hx hb d_Mo_takeChunk_1 (by decide +kernel) ?_
  refine lv_icmp_le (tgt := 6) hx hb d_Mo_takeChunk_2 (by decide +kernel) (fun hc1 => ?_) (fun hc1 => ?_)
  · replace hm := tp_it hc1 hm
    refine lv_aload_n hx hb d_Mo_takeChunk_6 rfl (lv_at hl 0 rfl) ?_
    refine tp_get (v := .int j_made) (C := R_Mo) (T := T_Mo) hx hb hts fw_Mo hown hw 0 rfl rfl 5 (by decide +kernel) (hts _ wd_337) rfl d_Mo_takeChunk_7 ?_
    refine lv_istore (lv' := [(4, .int j_made), (0, .ref q_j), (1, .int x1), (2, .int x2), (3, .int x3)]) hx hb d_Mo_takeChunk_10 hl (by decide +kernel) rfl (fun ls hl => ?_)
    refine lv_iload_n hx hb d_Mo_takeChunk_12 rfl (lv_at hl 4 rfl) ?_
    refine lv_iload hx hb d_Mo_takeChunk_13 (lv_at hl 0 rfl) ?_
    refine lv_isub hx hb d_Mo_takeChunk_15 ?_
    refine lv_istore (lv' := [(5, .int (x3 - j_made)), (4, .int j_made), (0, .ref q_j), (1, .int x1), (2, .int x2), (3, .int x3)]) hx hb d_Mo_takeChunk_16 hl (by decide +kernel) rfl (fun ls hl => ?_)
    refine lv_aload_n hx hb d_Mo_takeChunk_18 rfl (lv_at hl 2 rfl) ?_
    refine lv_iload_n hx hb d_Mo_takeChunk_19 rfl (lv_at hl 3 rfl) ?_
    refine lv_bipush (v := (8 : Int32)) hx hb d_Mo_takeChunk_20 (by decide +kernel) ?_
    refine lv_iadd hx hb d_Mo_takeChunk_22 ?_
    refine tp_put (v := .int (x1 + (8 : Int32))) (C := R_Mo) (T := T_Mo) (WS' := [(q_j, .inr (7, [.ref q_ji, .int j_in, .ref q_jo, .int j_out, .ref q_jm, .int j_made, .ref q_jn, .ref q_jf, .int j_known, .int j_fat, .int j_flong, .int j_told, .int (x1 + (8 : Int32)), .int j_end, .int j_fault, .int j_fp])), (q_ji, .inl (cB, 10000, .inl ji_f)), (q_jo, .inl (cB, 10000, .inl jo_f)), (q_jm, .inl (cB, 20000, .inl jm_f)), (q_jn, .inl (cI, 10001, .inl jn_f)), (q_jf, .inl (cI, 10001, .inl jf_f))]) hx hb hts fw_Mo ty_Mo ty_Mo_ok nm_Mo hown hw 0 rfl rfl 12 (by decide +kernel) (hts _ wd_405) rfl rfl rfl (Nat.le_of_ble_eq_true rfl) rfl d_Mo_takeChunk_23 (fun H locs hw => ?_)
    refine lv_iload_n hx hb d_Mo_takeChunk_26 rfl (lv_at hl 4 rfl) ?_
    refine lv_if_ne (tgt := 65) hx hb d_Mo_takeChunk_27 (by decide +kernel) (fun hc2 => ?_) (fun hc2 => ?_)
    · replace hm := tp_if hc2 hm
      refine lv_aload_n hx hb d_Mo_takeChunk_65 rfl (lv_at hl 2 rfl) ?_
      refine tp_get (v := .int j_end) (C := R_Mo) (T := T_Mo) hx hb hts fw_Mo hown hw 0 rfl rfl 13 (by decide +kernel) (hts _ wd_406) rfl d_Mo_takeChunk_66 ?_
      refine lv_aload_n hx hb d_Mo_takeChunk_69 rfl (lv_at hl 2 rfl) ?_
      refine tp_get (v := .int (x1 + (8 : Int32))) (C := R_Mo) (T := T_Mo) hx hb hts fw_Mo hown hw 0 rfl rfl 12 (by decide +kernel) (hts _ wd_405) rfl d_Mo_takeChunk_70 ?_
      refine lv_isub hx hb d_Mo_takeChunk_73 ?_
      refine lv_iload hx hb d_Mo_takeChunk_74 (lv_at hl 0 rfl) ?_
      refine lv_icmp_le (tgt := 95) hx hb d_Mo_takeChunk_76 (by decide +kernel) (fun hc3 => ?_) (fun hc3 => ?_)
      · replace hm := tp_it hc3 hm
        refine lv_aload_n hx hb d_Mo_takeChunk_95 rfl (lv_at hl 2 rfl) ?_
        refine tp_get (v := .int (x1 + (8 : Int32))) (C := R_Mo) (T := T_Mo) hx hb hts fw_Mo hown hw 0 rfl rfl 12 (by decide +kernel) (hts _ wd_405) rfl d_Mo_takeChunk_96 ?_
        refine lv_istore (lv' := [(6, .int (x1 + (8 : Int32))), (5, .int (x3 - j_made)), (4, .int j_made), (0, .ref q_j), (1, .int x1), (2, .int x2), (3, .int x3)]) hx hb d_Mo_takeChunk_99 hl (by decide +kernel) rfl (fun ls hl => ?_)
        exact w_Mo_takeChunk_101 hF2  N _ _ _ _ _ _ _ _ _ _ _ hm hw (lv_sub hl [3, 4, 2, 0] rfl)
      · replace hm := tp_if hc3 hm
        refine lv_aload_n hx hb d_Mo_takeChunk_79 rfl (lv_at hl 2 rfl) ?_
        refine lv_iconst (v := (3 : Int32)) hx hb d_Mo_takeChunk_80 (by decide +kernel) ?_
        refine lv_aload_n hx hb d_Mo_takeChunk_81 rfl (lv_at hl 2 rfl) ?_
        refine tp_get (v := .int (x1 + (8 : Int32))) (C := R_Mo) (T := T_Mo) hx hb hts fw_Mo hown hw 0 rfl rfl 12 (by decide +kernel) (hts _ wd_405) rfl d_Mo_takeChunk_82 ?_
        refine lv_iload hx hb d_Mo_takeChunk_85 (lv_at hl 0 rfl) ?_
        refine lv_iadd hx hb d_Mo_takeChunk_87 ?_
        obtain ⟨r4, j_fault_5, j_fp_6, hm7, hm⟩ := tp_b3_e hm
        refine tp_calli (wr := []) (WS' := [(q_j, .inr (7, [.ref q_ji, .int j_in, .ref q_jo, .int j_out, .ref q_jm, .int j_made, .ref q_jn, .ref q_jf, .int j_known, .int j_fat, .int j_flong, .int j_told, .int (x1 + (8 : Int32)), .int j_end, .int j_fault_5, .int j_fp_6])), (q_ji, .inl (cB, 10000, .inl ji_f)), (q_jo, .inl (cB, 10000, .inl jo_f)), (q_jm, .inl (cB, 20000, .inl jm_f)), (q_jn, .inl (cI, 10001, .inl jn_f)), (q_jf, .inl (cI, 10001, .inl jf_f))]) (va_runV (As := [.int (3 : Int32), .int ((x1 + (8 : Int32)) + (x3 - j_made))]) (rest := []) hF (ct_Mo_fails (l := l) (D := D) (cB := cB) (cI := cI) (tM := tM) (q_j := q_j) (q_ji := q_ji) (q_jo := q_jo) (q_jm := q_jm) (q_jn := q_jn) (q_jf := q_jf) (j_in := j_in) (j_out := j_out) (j_made := j_made) (j_known := j_known) (j_fat := j_fat) (j_flong := j_flong) (j_told := j_told) (j_at := (x1 + (8 : Int32))) (j_end := j_end) (j_fault := j_fault) (j_fp := j_fp) (ji_f := ji_f) (jo_f := jo_f) (jm_f := jm_f) (jn_f := jn_f) (jf_f := jf_f) (x1 := (3 : Int32)) (x2 := ((x1 + (8 : Int32)) + (x3 - j_made))) (r := r4) (j_fault' := j_fault_5) (j_fp' := j_fp_6) hm7 _) (cwV 2 hts (tpG_V wd_409 wd_410 wd_411 wd_340 wd_408) rfl rfl rfl ⟨rfl, yd_Mo_fails⟩ ⟨Nat.le_of_ble_eq_true rfl, Nat.le_of_ble_eq_true rfl⟩) ⟨tp_blind, va_recv hw.1 hw.2.1 (ci := 7) (q0 := 0) rfl rfl, tp_pre hw [0, 1, 2, 3, 4, 5] rfl rfl⟩ rfl rfl hl.1 rfl (lv_room (Nat.le_of_ble_eq_true rfl)) d_Mo_takeChunk_88 ⟨Nat.le_of_ble_eq_true rfl, Nat.le_of_ble_eq_true rfl⟩) hw [0, 1, 2, 3, 4, 5] [] [0, 1, 2, 3, 4, 5] rfl rfl rfl (by decide) rfl rfl (fun H locs hw => ?_)
        refine lv_pop hx hb d_Mo_takeChunk_91 rfl ?_
        refine lv_goto (tgt := 127) hx hb d_Mo_takeChunk_92 (by decide +kernel) ?_
        exact w_Mo_takeChunk_127 hF2  _ _ _ _ _ _ _ _ _ _ hm hw (lv_sub hl [2, 3, 1] rfl)
    · replace hm := tp_it hc2 hm
      refine lv_aload_n hx hb d_Mo_takeChunk_30 rfl (lv_at hl 2 rfl) ?_
      refine lv_iload hx hb d_Mo_takeChunk_31 (lv_at hl 0 rfl) ?_
      refine lv_ldc (v := (65536 : Int32)) hx hb hown (hts _ wd_381) d_Mo_takeChunk_33 ?_
      refine lv_icmp_ge (tgt := 43) hx hb d_Mo_takeChunk_35 (by decide +kernel) (fun hc8 => ?_) (fun hc8 => ?_)
      · replace hm := tp_it hc8 hm
        refine lv_ldc (v := (65536 : Int32)) hx hb hown (hts _ wd_381) d_Mo_takeChunk_43 ?_
        exact w_Mo_takeChunk_45 hF2  _ _ _ _ _ _ _ _ _ _ _ hm hw (lv_sub hl [2, 3, 1] rfl)
      · replace hm := tp_if hc8 hm
        refine lv_iload hx hb d_Mo_takeChunk_38 (lv_at hl 0 rfl) ?_
        refine lv_goto (tgt := 45) hx hb d_Mo_takeChunk_40 (by decide +kernel) ?_
        exact w_Mo_takeChunk_45 hF2  _ _ _ _ _ _ _ _ _ _ _ hm hw (lv_sub hl [2, 3, 1] rfl)
  · replace hm := tp_if hc1 hm
    obtain ⟨rfl, rfl, rfl, rfl, rfl⟩ := tp_inj5 hm
    exact tp_vret () hx hb hr hlocks hw d_Mo_takeChunk_5
end
abbrev rm_Mo_unchunk : Room := { frames := 5, cells := 0, slots := 0, locals := 134 }
abbrev ws_Mo_unchunk : List Cond := .code y_Mo_unchunk c_Mo_unchunk 4 (some .int) :: tpG
noncomputable def m_Mo_unchunk_20 (N : Nat) (j_in : Int32) (ji_f : Nat → Int32) (rec20 : Int32 → Int32 → Int32 → Int32 → Int32 → Int32 → Int32 → Int32 → Int32 → (Nat → Int32) → (Nat → Int32) → Option (Int32 × Int32 × Int32 × Int32 × Int32 × Int32 × Int32 × Int32 × (Nat → Int32) × (Nat → Int32))) (x1 : Int32) (x2 : Int32) (j_out : Int32) (j_made : Int32) (j_told : Int32) (j_at : Int32) (j_end : Int32) (j_fault : Int32) (j_fp : Int32) (jo_f : Nat → Int32) (jm_f : Nat → Int32) : Option (Int32 × Int32 × Int32 × Int32 × Int32 × Int32 × Int32 × Int32 × (Nat → Int32) × (Nat → Int32)) :=
  if j_fault = 0 then
    if j_in ≤ x2 then
      tp_b4 (m_Mo_endReading N j_in j_out j_made j_told j_fault j_fp jo_f jm_f) fun r15 j_out_16 j_told_17 jo_f_18 =>
      some (r15, j_out_16, j_made, j_told_17, j_at, j_end, j_fault, j_fp, jo_f_18, jm_f)
    else
      tp_b1 (m_Mo_byteOf x2 ji_f) fun r20 =>
      tp_b4 (m_Mo_orderly N x2 r20 j_in j_end j_fault j_fp ji_f) fun r22 j_end_23 j_fault_24 j_fp_25 =>
      if r22 = 0 then
        rec20 x1 j_end_23 j_out j_made j_told j_at j_end_23 j_fault_24 j_fp_25 jo_f jm_f
      else
        tp_b5 (m_Mo_takeChunk N x2 r20 x1 j_made j_at j_end_23 j_fault_24 j_fp_25 ji_f jm_f) fun j_made_28 j_at_29 j_fault_30 j_fp_31 jm_f_32 =>
        rec20 x1 j_end_23 j_out j_made_28 j_told j_at_29 j_end_23 j_fault_30 j_fp_31 jo_f jm_f_32
  else
    tp_b4 (m_Mo_endReading N j_in j_out j_made j_told j_fault j_fp jo_f jm_f) fun r9 j_out_10 j_told_11 jo_f_12 =>
    some (r9, j_out_10, j_made, j_told_11, j_at, j_end, j_fault, j_fp, jo_f_12, jm_f)
noncomputable def m_Mo_unchunk (N : Nat) (x1 : Int32) (j_in : Int32) (j_out : Int32) (j_made : Int32) (j_told : Int32) (j_at : Int32) (j_end : Int32) (j_fault : Int32) (j_fp : Int32) (ji_f : Nat → Int32) (jo_f : Nat → Int32) (jm_f : Nat → Int32) : Option (Int32 × Int32 × Int32 × Int32 × Int32 × Int32 × Int32 × Int32 × (Nat → Int32) × (Nat → Int32)) :=
  if x1 < 0 then
    some ((-20 : Int32), j_out, j_made, j_told, j_at, j_end, j_fault, j_fp, jo_f, jm_f)
  else
    if x1 ≤ (10000 : Int32) then
      tp_b4 (m_Mo_beginReading j_in j_made j_at j_end j_fault) fun j_made_3 j_at_4 j_end_5 j_fault_6 =>
      tp_it11 (m_Mo_unchunk_20 N j_in ji_f ) N x1 (0 : Int32) j_out j_made_3 j_told j_at_4 j_end_5 j_fault_6 j_fp jo_f jm_f
    else
      some ((-20 : Int32), j_out, j_made, j_told, j_at, j_end, j_fault, j_fp, jo_f, jm_f)
section
variable {p : Program} {l : Launch} {e : Env} {s : State} {m : MethodId} {args : Array Value} {below : List Frame} {meth : Method} {c : Code} {A : Nat → Prop} {D : va_G} {cB cI : ClassId} {tM : Nat}
set_option maxHeartbeats 4000000 in
set_option maxRecDepth 100000 in
theorem w_Mo_unchunk_20 {q_j q_ji q_jo q_jm q_jn q_jf : Nat} {j_in : Int32} {j_known : Int32} {j_fat : Int32} {j_flong : Int32} {ji_f : Nat → Int32} {jn_f : Nat → Int32} {jf_f : Nat → Int32} {N : Nat} {r : Int32} {j_out' : Int32} {j_made' : Int32} {j_told' : Int32} {j_at' : Int32} {j_end' : Int32} {j_fault' : Int32} {j_fp' : Int32} {jo_f' : Nat → Int32} {jm_f' : Nat → Int32} (hF2 : tp_F p m c c_Mo_unchunk 4 s args tpG R_Mo meth (some .int)) : ∀ (n : Nat), ∀ (x1 : Int32) (x2 : Int32) (j_out : Int32) (j_made : Int32) (j_told : Int32) (j_at : Int32) (j_end : Int32) (j_fault : Int32) (j_fp : Int32) (jo_f : Nat → Int32) (jm_f : Nat → Int32) (H : Heap) (locs : List Loc) (ls : Array Slot), tp_it11 (m_Mo_unchunk_20 N j_in ji_f ) n x1 x2 j_out j_made j_told j_at j_end j_fault j_fp jo_f jm_f = some (r, j_out', j_made', j_told', j_at', j_end', j_fault', j_fp', jo_f', jm_f') → tp_Wd D (tp_ty cB cI) tM A s H locs [(q_j, .inr (7, [.ref q_ji, .int j_in, .ref q_jo, .int j_out, .ref q_jm, .int j_made, .ref q_jn, .ref q_jf, .int j_known, .int j_fat, .int j_flong, .int j_told, .int j_at, .int j_end, .int j_fault, .int j_fp])), (q_ji, .inl (cB, 10000, .inl ji_f)), (q_jo, .inl (cB, 10000, .inl jo_f)), (q_jm, .inl (cB, 20000, .inl jm_f)), (q_jn, .inl (cI, 10001, .inl jn_f)), (q_jf, .inl (cI, 10001, .inl jf_f))] → lv_has ls 4 [(0, .ref q_j), (1, .int x1), (2, .int x2)] → W p l e rm_Mo_unchunk s m args below meth c H locs 0 0 (MQ below (tp_Qi D A r [(q_j, .inr (7, [.ref q_ji, .int j_in, .ref q_jo, .int j_out', .ref q_jm, .int j_made', .ref q_jn, .ref q_jf, .int j_known, .int j_fat, .int j_flong, .int j_told', .int j_at', .int j_end', .int j_fault', .int j_fp'])), (q_ji, .inl (cB, 10000, .inl ji_f)), (q_jo, .inl (cB, 10000, .inl jo_f')), (q_jm, .inl (cB, 20000, .inl jm_f')), (q_jn, .inl (cI, 10001, .inl jn_f)), (q_jf, .inl (cI, 10001, .inl jf_f))]) args s 0 0 A) (F0 m 20 ls []) := by
  obtain ⟨hF, hr, hlocks⟩ := id hF2
  obtain ⟨hx, hb, hml, hown, hts⟩ := id hF
  intro n
  induction n with
  | zero => intro x1 x2 j_out j_made j_told j_at j_end j_fault j_fp jo_f jm_f H locs ls hm; exact absurd hm (by simp [tp_it11])
  | succ n ih20 =>
    intro x1 x2 j_out j_made j_told j_at j_end j_fault j_fp jo_f jm_f H locs ls hm hw hl
    replace hm : m_Mo_unchunk_20 N j_in ji_f  (tp_it11 (m_Mo_unchunk_20 N j_in ji_f ) n) x1 x2 j_out j_made j_told j_at j_end j_fault j_fp jo_f jm_f = some (r, j_out', j_made', j_told', j_at', j_end', j_fault', j_fp', jo_f', jm_f') := hm
    unfold m_Mo_unchunk_20 at hm
    refine lv_aload_n hx hb d_Mo_unchunk_20 rfl (lv_at hl 0 rfl) ?_
    refine tp_get (v := .int j_fault) (C := R_Mo) (T := T_Mo) hx hb hts fw_Mo hown hw 0 rfl rfl 14 (by decide +kernel) (hts _ wd_402) rfl d_Mo_unchunk_21 ?_
    refine lv_if_ne (tgt := 65) hx hb d_Mo_unchunk_24 (by decide +kernel) (fun hc8 => ?_) (fun hc8 => ?_)
    · replace hm := tp_if hc8 hm
      refine lv_aload_n hx hb d_Mo_unchunk_65 rfl (lv_at hl 0 rfl) ?_
      obtain ⟨r9, j_out_10, j_told_11, jo_f_12, hm13, hm⟩ := tp_b4_e hm
      refine tp_calli (wr := []) (WS' := [(q_j, .inr (7, [.ref q_ji, .int j_in, .ref q_jo, .int j_out_10, .ref q_jm, .int j_made, .ref q_jn, .ref q_jf, .int j_known, .int j_fat, .int j_flong, .int j_told_11, .int j_at, .int j_end, .int j_fault, .int j_fp])), (q_ji, .inl (cB, 10000, .inl ji_f)), (q_jo, .inl (cB, 10000, .inl jo_f_12)), (q_jm, .inl (cB, 20000, .inl jm_f)), (q_jn, .inl (cI, 10001, .inl jn_f)), (q_jf, .inl (cI, 10001, .inl jf_f))]) (va_runV (As := []) (rest := []) hF (ct_Mo_endReading (l := l) (D := D) (cB := cB) (cI := cI) (tM := tM) (q_j := q_j) (q_ji := q_ji) (q_jo := q_jo) (q_jm := q_jm) (q_jn := q_jn) (q_jf := q_jf) (j_in := j_in) (j_out := j_out) (j_made := j_made) (j_known := j_known) (j_fat := j_fat) (j_flong := j_flong) (j_told := j_told) (j_at := j_at) (j_end := j_end) (j_fault := j_fault) (j_fp := j_fp) (ji_f := ji_f) (jo_f := jo_f) (jm_f := jm_f) (jn_f := jn_f) (jf_f := jf_f) (N := N) (r := r9) (j_out' := j_out_10) (j_told' := j_told_11) (jo_f' := jo_f_12) hm13 _) (cwV 0 hts (tpG_V wd_446 wd_447 wd_448 wd_340 wd_445) rfl rfl rfl ⟨rfl, yd_Mo_endReading⟩ ⟨Nat.le_of_ble_eq_true rfl, Nat.le_of_ble_eq_true rfl⟩) ⟨tp_blind, va_recv hw.1 hw.2.1 (ci := 7) (q0 := 0) rfl rfl, tp_pre hw [0, 1, 2, 3, 4, 5] rfl rfl⟩ rfl rfl hl.1 rfl (lv_room (Nat.le_of_ble_eq_true rfl)) d_Mo_unchunk_66 ⟨Nat.le_of_ble_eq_true rfl, Nat.le_of_ble_eq_true rfl⟩) hw [0, 1, 2, 3, 4, 5] [] [0, 1, 2, 3, 4, 5] rfl rfl rfl (by decide) rfl rfl (fun H locs hw => ?_)
      obtain ⟨rfl, rfl, rfl, rfl, rfl, rfl, rfl, rfl, rfl, rfl⟩ := tp_inj10 hm
      exact tp_iret hx hb hr hlocks hw d_Mo_unchunk_69
    · replace hm := tp_it hc8 hm
      refine lv_iload_n hx hb d_Mo_unchunk_27 rfl (lv_at hl 2 rfl) ?_
      refine lv_aload_n hx hb d_Mo_unchunk_28 rfl (lv_at hl 0 rfl) ?_
      refine tp_get (v := .int j_in) (C := R_Mo) (T := T_Mo) hx hb hts fw_Mo hown hw 0 rfl rfl 1 (by decide +kernel) (hts _ wd_332) rfl d_Mo_unchunk_29 ?_
      refine lv_icmp_ge (tgt := 65) hx hb d_Mo_unchunk_32 (by decide +kernel) (fun hc14 => ?_) (fun hc14 => ?_)
      · replace hm := tp_it hc14 hm
        refine lv_aload_n hx hb d_Mo_unchunk_65 rfl (lv_at hl 0 rfl) ?_
        obtain ⟨r15, j_out_16, j_told_17, jo_f_18, hm19, hm⟩ := tp_b4_e hm
        refine tp_calli (wr := []) (WS' := [(q_j, .inr (7, [.ref q_ji, .int j_in, .ref q_jo, .int j_out_16, .ref q_jm, .int j_made, .ref q_jn, .ref q_jf, .int j_known, .int j_fat, .int j_flong, .int j_told_17, .int j_at, .int j_end, .int j_fault, .int j_fp])), (q_ji, .inl (cB, 10000, .inl ji_f)), (q_jo, .inl (cB, 10000, .inl jo_f_18)), (q_jm, .inl (cB, 20000, .inl jm_f)), (q_jn, .inl (cI, 10001, .inl jn_f)), (q_jf, .inl (cI, 10001, .inl jf_f))]) (va_runV (As := []) (rest := []) hF (ct_Mo_endReading (l := l) (D := D) (cB := cB) (cI := cI) (tM := tM) (q_j := q_j) (q_ji := q_ji) (q_jo := q_jo) (q_jm := q_jm) (q_jn := q_jn) (q_jf := q_jf) (j_in := j_in) (j_out := j_out) (j_made := j_made) (j_known := j_known) (j_fat := j_fat) (j_flong := j_flong) (j_told := j_told) (j_at := j_at) (j_end := j_end) (j_fault := j_fault) (j_fp := j_fp) (ji_f := ji_f) (jo_f := jo_f) (jm_f := jm_f) (jn_f := jn_f) (jf_f := jf_f) (N := N) (r := r15) (j_out' := j_out_16) (j_told' := j_told_17) (jo_f' := jo_f_18) hm19 _) (cwV 0 hts (tpG_V wd_446 wd_447 wd_448 wd_340 wd_445) rfl rfl rfl ⟨rfl, yd_Mo_endReading⟩ ⟨Nat.le_of_ble_eq_true rfl, Nat.le_of_ble_eq_true rfl⟩) ⟨tp_blind, va_recv hw.1 hw.2.1 (ci := 7) (q0 := 0) rfl rfl, tp_pre hw [0, 1, 2, 3, 4, 5] rfl rfl⟩ rfl rfl hl.1 rfl (lv_room (Nat.le_of_ble_eq_true rfl)) d_Mo_unchunk_66 ⟨Nat.le_of_ble_eq_true rfl, Nat.le_of_ble_eq_true rfl⟩) hw [0, 1, 2, 3, 4, 5] [] [0, 1, 2, 3, 4, 5] rfl rfl rfl (by decide) rfl rfl (fun H locs hw => ?_)
        obtain ⟨rfl, rfl, rfl, rfl, rfl, rfl, rfl, rfl, rfl, rfl⟩ := tp_inj10 hm
        exact tp_iret hx hb hr hlocks hw d_Mo_unchunk_69
      · replace hm := tp_if hc14 hm
        refine lv_aload_n hx hb d_Mo_unchunk_35 rfl (lv_at hl 0 rfl) ?_
        refine lv_iload_n hx hb d_Mo_unchunk_36 rfl (lv_at hl 2 rfl) ?_
        obtain ⟨r20, hm21, hm⟩ := tp_b1_e hm
        refine tp_calli (wr := []) (WS' := [(q_j, .inr (7, [.ref q_ji, .int j_in, .ref q_jo, .int j_out, .ref q_jm, .int j_made, .ref q_jn, .ref q_jf, .int j_known, .int j_fat, .int j_flong, .int j_told, .int j_at, .int j_end, .int j_fault, .int j_fp])), (q_ji, .inl (cB, 10000, .inl ji_f)), (q_jo, .inl (cB, 10000, .inl jo_f)), (q_jm, .inl (cB, 20000, .inl jm_f)), (q_jn, .inl (cI, 10001, .inl jn_f)), (q_jf, .inl (cI, 10001, .inl jf_f))]) (va_runV (As := [.int x2]) (rest := []) hF (ct_Mo_byteOf (l := l) (D := D) (cB := cB) (cI := cI) (tM := tM) (q_j := q_j) (q_ji := q_ji) (q_jo := q_jo) (q_jm := q_jm) (q_jn := q_jn) (q_jf := q_jf) (j_in := j_in) (j_out := j_out) (j_made := j_made) (j_known := j_known) (j_fat := j_fat) (j_flong := j_flong) (j_told := j_told) (j_at := j_at) (j_end := j_end) (j_fault := j_fault) (j_fp := j_fp) (ji_f := ji_f) (jo_f := jo_f) (jm_f := jm_f) (jn_f := jn_f) (jf_f := jf_f) (x1 := x2) (r := r20) hm21 _) (cwV 1 hts (tpG_V wd_462 wd_463 wd_464 wd_340 wd_461) rfl rfl rfl ⟨rfl, yd_Mo_byteOf⟩ ⟨Nat.le_of_ble_eq_true rfl, Nat.le_of_ble_eq_true rfl⟩) ⟨tp_blind, va_recv hw.1 hw.2.1 (ci := 7) (q0 := 0) rfl rfl, tp_pre hw [0, 1, 2, 3, 4, 5] rfl rfl⟩ rfl rfl hl.1 rfl (lv_room (Nat.le_of_ble_eq_true rfl)) d_Mo_unchunk_37 ⟨Nat.le_of_ble_eq_true rfl, Nat.le_of_ble_eq_true rfl⟩) hw [0, 1, 2, 3, 4, 5] [] [0, 1, 2, 3, 4, 5] rfl rfl rfl (by decide) rfl rfl (fun H locs hw => ?_)
        refine lv_istore_n (lv' := [(3, .int r20), (0, .ref q_j), (1, .int x1), (2, .int x2)]) hx hb d_Mo_unchunk_40 rfl hl (by decide +kernel) rfl (fun ls hl => ?_)
        refine lv_aload_n hx hb d_Mo_unchunk_41 rfl (lv_at hl 1 rfl) ?_
        refine lv_iload_n hx hb d_Mo_unchunk_42 rfl (lv_at hl 3 rfl) ?_
        refine lv_iload_n hx hb d_Mo_unchunk_43 rfl (lv_at hl 0 rfl) ?_
        obtain ⟨r22, j_end_23, j_fault_24, j_fp_25, hm26, hm⟩ := tp_b4_e hm
        refine tp_calli (wr := []) (WS' := [(q_j, .inr (7, [.ref q_ji, .int j_in, .ref q_jo, .int j_out, .ref q_jm, .int j_made, .ref q_jn, .ref q_jf, .int j_known, .int j_fat, .int j_flong, .int j_told, .int j_at, .int j_end_23, .int j_fault_24, .int j_fp_25])), (q_ji, .inl (cB, 10000, .inl ji_f)), (q_jo, .inl (cB, 10000, .inl jo_f)), (q_jm, .inl (cB, 20000, .inl jm_f)), (q_jn, .inl (cI, 10001, .inl jn_f)), (q_jf, .inl (cI, 10001, .inl jf_f))]) (va_runV (As := [.int x2, .int r20]) (rest := []) hF (ct_Mo_orderly (l := l) (D := D) (cB := cB) (cI := cI) (tM := tM) (q_j := q_j) (q_ji := q_ji) (q_jo := q_jo) (q_jm := q_jm) (q_jn := q_jn) (q_jf := q_jf) (j_in := j_in) (j_out := j_out) (j_made := j_made) (j_known := j_known) (j_fat := j_fat) (j_flong := j_flong) (j_told := j_told) (j_at := j_at) (j_end := j_end) (j_fault := j_fault) (j_fp := j_fp) (ji_f := ji_f) (jo_f := jo_f) (jm_f := jm_f) (jn_f := jn_f) (jf_f := jf_f) (x1 := x2) (x2 := r20) (N := N) (r := r22) (j_end' := j_end_23) (j_fault' := j_fault_24) (j_fp' := j_fp_25) hm26 _) (cwV 2 hts (tpG_V wd_467 wd_468 wd_469 wd_340 wd_466) rfl rfl rfl ⟨rfl, yd_Mo_orderly⟩ ⟨Nat.le_of_ble_eq_true rfl, Nat.le_of_ble_eq_true rfl⟩) ⟨tp_blind, va_recv hw.1 hw.2.1 (ci := 7) (q0 := 0) rfl rfl, tp_pre hw [0, 1, 2, 3, 4, 5] rfl rfl⟩ rfl rfl hl.1 rfl (lv_room (Nat.le_of_ble_eq_true rfl)) d_Mo_unchunk_44 ⟨Nat.le_of_ble_eq_true rfl, Nat.le_of_ble_eq_true rfl⟩) hw [0, 1, 2, 3, 4, 5] [] [0, 1, 2, 3, 4, 5] rfl rfl rfl (by decide) rfl rfl (fun H locs hw => ?_)
        refine lv_if_eq (tgt := 57) hx hb d_Mo_unchunk_47 (by decide +kernel) (fun hc27 => ?_) (fun hc27 => ?_)
        · replace hm := tp_it hc27 hm
          refine lv_aload_n hx hb d_Mo_unchunk_57 rfl (lv_at hl 1 rfl) ?_
          refine tp_get (v := .int j_end_23) (C := R_Mo) (T := T_Mo) hx hb hts fw_Mo hown hw 0 rfl rfl 13 (by decide +kernel) (hts _ wd_406) rfl d_Mo_unchunk_58 ?_
          refine lv_istore_n (lv' := [(2, .int j_end_23), (3, .int r20), (0, .ref q_j), (1, .int x1)]) hx hb d_Mo_unchunk_61 rfl hl (by decide +kernel) rfl (fun ls hl => ?_)
          refine lv_goto (tgt := 20) hx hb d_Mo_unchunk_62 (by decide +kernel) ?_
          exact ih20 _ _ _ _ _ _ _ _ _ _ _ _ _ _ hm hw (lv_sub hl [2, 3, 0] rfl)
        · replace hm := tp_if hc27 hm
          refine lv_aload_n hx hb d_Mo_unchunk_50 rfl (lv_at hl 1 rfl) ?_
          refine lv_iload_n hx hb d_Mo_unchunk_51 rfl (lv_at hl 3 rfl) ?_
          refine lv_iload_n hx hb d_Mo_unchunk_52 rfl (lv_at hl 0 rfl) ?_
          refine lv_iload_n hx hb d_Mo_unchunk_53 rfl (lv_at hl 2 rfl) ?_
          obtain ⟨j_made_28, j_at_29, j_fault_30, j_fp_31, jm_f_32, hm33, hm⟩ := tp_b5_e hm
          refine tp_callv (wr := []) (WS' := [(q_j, .inr (7, [.ref q_ji, .int j_in, .ref q_jo, .int j_out, .ref q_jm, .int j_made_28, .ref q_jn, .ref q_jf, .int j_known, .int j_fat, .int j_flong, .int j_told, .int j_at_29, .int j_end_23, .int j_fault_30, .int j_fp_31])), (q_ji, .inl (cB, 10000, .inl ji_f)), (q_jo, .inl (cB, 10000, .inl jo_f)), (q_jm, .inl (cB, 20000, .inl jm_f_32)), (q_jn, .inl (cI, 10001, .inl jn_f)), (q_jf, .inl (cI, 10001, .inl jf_f))]) (va_runV (As := [.int x2, .int r20, .int x1]) (rest := []) hF (ct_Mo_takeChunk (l := l) (D := D) (cB := cB) (cI := cI) (tM := tM) (q_j := q_j) (q_ji := q_ji) (q_jo := q_jo) (q_jm := q_jm) (q_jn := q_jn) (q_jf := q_jf) (j_in := j_in) (j_out := j_out) (j_made := j_made) (j_known := j_known) (j_fat := j_fat) (j_flong := j_flong) (j_told := j_told) (j_at := j_at) (j_end := j_end_23) (j_fault := j_fault_24) (j_fp := j_fp_25) (ji_f := ji_f) (jo_f := jo_f) (jm_f := jm_f) (jn_f := jn_f) (jf_f := jf_f) (x1 := x2) (x2 := r20) (x3 := x1) (N := N) (j_made' := j_made_28) (j_at' := j_at_29) (j_fault' := j_fault_30) (j_fp' := j_fp_31) (jm_f' := jm_f_32) hm33 _) (cwV 3 hts (tpG_V wd_471 wd_472 wd_473 wd_340 wd_470) rfl rfl rfl ⟨rfl, yd_Mo_takeChunk⟩ ⟨Nat.le_of_ble_eq_true rfl, Nat.le_of_ble_eq_true rfl⟩) ⟨tp_blind, va_recv hw.1 hw.2.1 (ci := 7) (q0 := 0) rfl rfl, tp_pre hw [0, 1, 2, 3, 4, 5] rfl rfl⟩ rfl rfl hl.1 rfl (lv_room (Nat.le_of_ble_eq_true rfl)) d_Mo_unchunk_54 ⟨Nat.le_of_ble_eq_true rfl, Nat.le_of_ble_eq_true rfl⟩) hw [0, 1, 2, 3, 4, 5] [] [0, 1, 2, 3, 4, 5] rfl rfl rfl (by decide) rfl rfl (fun H locs hw => ?_)
          refine lv_aload_n hx hb d_Mo_unchunk_57 rfl (lv_at hl 1 rfl) ?_
          refine tp_get (v := .int j_end_23) (C := R_Mo) (T := T_Mo) hx hb hts fw_Mo hown hw 0 rfl rfl 13 (by decide +kernel) (hts _ wd_406) rfl d_Mo_unchunk_58 ?_
          refine lv_istore_n (lv' := [(2, .int j_end_23), (3, .int r20), (0, .ref q_j), (1, .int x1)]) hx hb d_Mo_unchunk_61 rfl hl (by decide +kernel) rfl (fun ls hl => ?_)
          refine lv_goto (tgt := 20) hx hb d_Mo_unchunk_62 (by decide +kernel) ?_
          exact ih20 _ _ _ _ _ _ _ _ _ _ _ _ _ _ hm hw (lv_sub hl [2, 3, 0] rfl)
set_option maxHeartbeats 4000000 in
set_option maxRecDepth 100000 in
theorem ct_Mo_unchunk {q_j q_ji q_jo q_jm q_jn q_jf : Nat} {j_in : Int32} {j_out : Int32} {j_made : Int32} {j_known : Int32} {j_fat : Int32} {j_flong : Int32} {j_told : Int32} {j_at : Int32} {j_end : Int32} {j_fault : Int32} {j_fp : Int32} {ji_f : Nat → Int32} {jo_f : Nat → Int32} {jm_f : Nat → Int32} {jn_f : Nat → Int32} {jf_f : Nat → Int32} {N : Nat} {x1 : Int32} {r : Int32} {j_out' : Int32} {j_made' : Int32} {j_told' : Int32} {j_at' : Int32} {j_end' : Int32} {j_fault' : Int32} {j_fp' : Int32} {jo_f' : Nat → Int32} {jm_f' : Nat → Int32} (hm : m_Mo_unchunk N x1 j_in j_out j_made j_told j_at j_end j_fault j_fp ji_f jo_f jm_f = some (r, j_out', j_made', j_told', j_at', j_end', j_fault', j_fp', jo_f', jm_f')) (sz : Nat) : tp_Ci l y_Mo_unchunk ws_Mo_unchunk rm_Mo_unchunk D (tp_ty cB cI) tM [.ref q_j, .int x1] [(q_j, .inr (7, [.ref q_ji, .int j_in, .ref q_jo, .int j_out, .ref q_jm, .int j_made, .ref q_jn, .ref q_jf, .int j_known, .int j_fat, .int j_flong, .int j_told, .int j_at, .int j_end, .int j_fault, .int j_fp])), (q_ji, .inl (cB, 10000, .inl ji_f)), (q_jo, .inl (cB, 10000, .inl jo_f)), (q_jm, .inl (cB, 20000, .inl jm_f)), (q_jn, .inl (cI, 10001, .inl jn_f)), (q_jf, .inl (cI, 10001, .inl jf_f))] sz r [(q_j, .inr (7, [.ref q_ji, .int j_in, .ref q_jo, .int j_out', .ref q_jm, .int j_made', .ref q_jn, .ref q_jf, .int j_known, .int j_fat, .int j_flong, .int j_told', .int j_at', .int j_end', .int j_fault', .int j_fp'])), (q_ji, .inl (cB, 10000, .inl ji_f)), (q_jo, .inl (cB, 10000, .inl jo_f')), (q_jm, .inl (cB, 20000, .inl jm_f')), (q_jn, .inl (cI, 10001, .inl jn_f)), (q_jf, .inl (cI, 10001, .inl jf_f))] := by
  refine Met.ofW (cc := c_Mo_unchunk) (maxL := 4) (ret := (some .int)) (by decide) rfl ?_
  intro p e s m args below meth c s₁ B hml hv
  obtain ⟨rfl, hv⟩ := hv
  have hw := tp_entry hv
  generalize va_A [(q_j, .inr (7, [.ref q_ji, .int j_in, .ref q_jo, .int j_out, .ref q_jm, .int j_made, .ref q_jn, .ref q_jf, .int j_known, .int j_fat, .int j_flong, .int j_told, .int j_at, .int j_end, .int j_fault, .int j_fp])), (q_ji, .inl (cB, 10000, .inl ji_f)), (q_jo, .inl (cB, 10000, .inl jo_f)), (q_jm, .inl (cB, 20000, .inl jm_f)), (q_jn, .inl (cI, 10001, .inl jn_f)), (q_jf, .inl (cI, 10001, .inl jf_f))] sz = A at hw ⊢
  have hx := B.exec
  have hb := B.bytes
  have hr := B.returns
  have hts0 := atoms_spec (ws := ws_Mo_unchunk) B.pre
  have hts := fun w h => hts0 w (List.mem_cons_of_mem _ h)
  have hown : s.vm.findClass R_Mo = some m.cls := findClass_of_methodNamed B.named
  have hlocks := B.notSynchronized
  have hF : CallFix p m c c_Mo_unchunk 4 s _ tpG R_Mo := ⟨hx, hb, hml, hown, hts⟩
  have hF2 : tp_F p m c c_Mo_unchunk 4 s _ tpG R_Mo meth (some .int) := ⟨hF, hr, hlocks⟩
  have hl := lv_entry ([.ref q_j, .int x1]) (n := 4) (Nat.le_of_ble_eq_true rfl)
  rw [lg_entry_eq]
  generalize (lg_sl ([.ref q_j, .int x1]) ++ List.replicate (4 - (lg_sl ([.ref q_j, .int x1])).length) Slot.unset).toArray = ls at hl ⊢
  replace hl : lv_has ls 4 [(0, .ref q_j), (1, .int x1)] := hl
  unfold m_Mo_unchunk at hm
  refine lv_iload_n hx hb d_Mo_unchunk_0 rfl (lv_at hl 1 rfl) ?_
  refine lv_if_lt (tgt := 11) hx hb d_Mo_unchunk_1 (by decide +kernel) (fun hc1 => ?_) (fun hc1 => ?_)
  · replace hm := tp_it hc1 hm
    refine lv_bipush (v := (-20 : Int32)) hx hb d_Mo_unchunk_11 (by decide +kernel) ?_
    obtain ⟨rfl, rfl, rfl, rfl, rfl, rfl, rfl, rfl, rfl, rfl⟩ := tp_inj10 hm
    exact tp_iret hx hb hr hlocks hw d_Mo_unchunk_13
  · replace hm := tp_if hc1 hm
    refine lv_iload_n hx hb d_Mo_unchunk_4 rfl (lv_at hl 1 rfl) ?_
    refine lv_sipush (v := (10000 : Int32)) hx hb d_Mo_unchunk_5 (by decide +kernel) ?_
    refine lv_icmp_le (tgt := 14) hx hb d_Mo_unchunk_8 (by decide +kernel) (fun hc2 => ?_) (fun hc2 => ?_)
    · replace hm := tp_it hc2 hm
      refine lv_aload_n hx hb d_Mo_unchunk_14 rfl (lv_at hl 0 rfl) ?_
      obtain ⟨j_made_3, j_at_4, j_end_5, j_fault_6, hm7, hm⟩ := tp_b4_e hm
      refine tp_callv (wr := []) (WS' := [(q_j, .inr (7, [.ref q_ji, .int j_in, .ref q_jo, .int j_out, .ref q_jm, .int j_made_3, .ref q_jn, .ref q_jf, .int j_known, .int j_fat, .int j_flong, .int j_told, .int j_at_4, .int j_end_5, .int j_fault_6, .int j_fp])), (q_ji, .inl (cB, 10000, .inl ji_f)), (q_jo, .inl (cB, 10000, .inl jo_f)), (q_jm, .inl (cB, 20000, .inl jm_f)), (q_jn, .inl (cI, 10001, .inl jn_f)), (q_jf, .inl (cI, 10001, .inl jf_f))]) (va_runV (As := []) (rest := []) hF (ct_Mo_beginReading (l := l) (D := D) (cB := cB) (cI := cI) (tM := tM) (q_j := q_j) (q_ji := q_ji) (q_jo := q_jo) (q_jm := q_jm) (q_jn := q_jn) (q_jf := q_jf) (j_in := j_in) (j_out := j_out) (j_made := j_made) (j_known := j_known) (j_fat := j_fat) (j_flong := j_flong) (j_told := j_told) (j_at := j_at) (j_end := j_end) (j_fault := j_fault) (j_fp := j_fp) (ji_f := ji_f) (jo_f := jo_f) (jm_f := jm_f) (jn_f := jn_f) (jf_f := jf_f) (j_made' := j_made_3) (j_at' := j_at_4) (j_end' := j_end_5) (j_fault' := j_fault_6) hm7 _) (cwV 0 hts (tpG_V wd_438 wd_439 wd_440 wd_340 wd_437) rfl rfl rfl ⟨rfl, yd_Mo_beginReading⟩ ⟨Nat.le_of_ble_eq_true rfl, Nat.le_of_ble_eq_true rfl⟩) ⟨tp_blind, va_recv hw.1 hw.2.1 (ci := 7) (q0 := 0) rfl rfl, tp_pre hw [0, 1, 2, 3, 4, 5] rfl rfl⟩ rfl rfl hl.1 rfl (lv_room (Nat.le_of_ble_eq_true rfl)) d_Mo_unchunk_15 ⟨Nat.le_of_ble_eq_true rfl, Nat.le_of_ble_eq_true rfl⟩) hw [0, 1, 2, 3, 4, 5] [] [0, 1, 2, 3, 4, 5] rfl rfl rfl (by decide) rfl rfl (fun H locs hw => ?_)
      refine lv_iconst (v := (0 : Int32)) hx hb d_Mo_unchunk_18 (by decide +kernel) ?_
      refine lv_istore_n (lv' := [(2, .int (0 : Int32)), (0, .ref q_j), (1, .int x1)]) hx hb d_Mo_unchunk_19 rfl hl (by decide +kernel) rfl (fun ls hl => ?_)
      exact w_Mo_unchunk_20 hF2  N _ _ _ _ _ _ _ _ _ _ _ _ _ _ hm hw (lv_sub hl [1, 2, 0] rfl)
    · replace hm := tp_if hc2 hm
      refine lv_bipush (v := (-20 : Int32)) hx hb d_Mo_unchunk_11 (by decide +kernel) ?_
      obtain ⟨rfl, rfl, rfl, rfl, rfl, rfl, rfl, rfl, rfl, rfl⟩ := tp_inj10 hm
      exact tp_iret hx hb hr hlocks hw d_Mo_unchunk_13
end
abbrev rm_Mo_place : Room := { frames := 0, cells := 0, slots := 0, locals := 0 }
abbrev ws_Mo_place : List Cond := .code y_Mo_place c_Mo_place 1 (some .int) :: tpG
noncomputable def m_Mo_place (j_told : Int32) : Option (Int32) :=
  some (j_told)
section
variable {p : Program} {l : Launch} {e : Env} {s : State} {m : MethodId} {args : Array Value} {below : List Frame} {meth : Method} {c : Code} {A : Nat → Prop} {D : va_G} {cB cI : ClassId} {tM : Nat}
set_option maxHeartbeats 4000000 in
set_option maxRecDepth 100000 in
theorem ct_Mo_place {q_j q_ji q_jo q_jm q_jn q_jf : Nat} {j_in : Int32} {j_out : Int32} {j_made : Int32} {j_known : Int32} {j_fat : Int32} {j_flong : Int32} {j_told : Int32} {j_at : Int32} {j_end : Int32} {j_fault : Int32} {j_fp : Int32} {ji_f : Nat → Int32} {jo_f : Nat → Int32} {jm_f : Nat → Int32} {jn_f : Nat → Int32} {jf_f : Nat → Int32} {r : Int32} (hm : m_Mo_place j_told = some (r)) (sz : Nat) : tp_Ci l y_Mo_place ws_Mo_place rm_Mo_place D (tp_ty cB cI) tM [.ref q_j] [(q_j, .inr (7, [.ref q_ji, .int j_in, .ref q_jo, .int j_out, .ref q_jm, .int j_made, .ref q_jn, .ref q_jf, .int j_known, .int j_fat, .int j_flong, .int j_told, .int j_at, .int j_end, .int j_fault, .int j_fp])), (q_ji, .inl (cB, 10000, .inl ji_f)), (q_jo, .inl (cB, 10000, .inl jo_f)), (q_jm, .inl (cB, 20000, .inl jm_f)), (q_jn, .inl (cI, 10001, .inl jn_f)), (q_jf, .inl (cI, 10001, .inl jf_f))] sz r [(q_j, .inr (7, [.ref q_ji, .int j_in, .ref q_jo, .int j_out, .ref q_jm, .int j_made, .ref q_jn, .ref q_jf, .int j_known, .int j_fat, .int j_flong, .int j_told, .int j_at, .int j_end, .int j_fault, .int j_fp])), (q_ji, .inl (cB, 10000, .inl ji_f)), (q_jo, .inl (cB, 10000, .inl jo_f)), (q_jm, .inl (cB, 20000, .inl jm_f)), (q_jn, .inl (cI, 10001, .inl jn_f)), (q_jf, .inl (cI, 10001, .inl jf_f))] := by
  refine Met.ofW (cc := c_Mo_place) (maxL := 1) (ret := (some .int)) (by decide) rfl ?_
  intro p e s m args below meth c s₁ B hml hv
  obtain ⟨rfl, hv⟩ := hv
  have hw := tp_entry hv
  generalize va_A [(q_j, .inr (7, [.ref q_ji, .int j_in, .ref q_jo, .int j_out, .ref q_jm, .int j_made, .ref q_jn, .ref q_jf, .int j_known, .int j_fat, .int j_flong, .int j_told, .int j_at, .int j_end, .int j_fault, .int j_fp])), (q_ji, .inl (cB, 10000, .inl ji_f)), (q_jo, .inl (cB, 10000, .inl jo_f)), (q_jm, .inl (cB, 20000, .inl jm_f)), (q_jn, .inl (cI, 10001, .inl jn_f)), (q_jf, .inl (cI, 10001, .inl jf_f))] sz = A at hw ⊢
  have hx := B.exec
  have hb := B.bytes
  have hr := B.returns
  have hts0 := atoms_spec (ws := ws_Mo_place) B.pre
  have hts := fun w h => hts0 w (List.mem_cons_of_mem _ h)
  have hown : s.vm.findClass R_Mo = some m.cls := findClass_of_methodNamed B.named
  have hlocks := B.notSynchronized
  have hF : CallFix p m c c_Mo_place 1 s _ tpG R_Mo := ⟨hx, hb, hml, hown, hts⟩
  have hF2 : tp_F p m c c_Mo_place 1 s _ tpG R_Mo meth (some .int) := ⟨hF, hr, hlocks⟩
  have hl := lv_entry ([.ref q_j]) (n := 1) (Nat.le_of_ble_eq_true rfl)
  rw [lg_entry_eq]
  generalize (lg_sl ([.ref q_j]) ++ List.replicate (1 - (lg_sl ([.ref q_j])).length) Slot.unset).toArray = ls at hl ⊢
  replace hl : lv_has ls 1 [(0, .ref q_j)] := hl
  unfold m_Mo_place at hm
  refine lv_aload_n hx hb d_Mo_place_0 rfl (lv_at hl 0 rfl) ?_
  refine tp_get (v := .int j_told) (C := R_Mo) (T := T_Mo) hx hb hts fw_Mo hown hw 0 rfl rfl 11 (by decide +kernel) (hts _ wd_436) rfl d_Mo_place_1 ?_
  obtain rfl := tp_inj1 hm
  exact tp_iret hx hb hr hlocks hw d_Mo_place_4
end
abbrev rm_Mo_sum : Room := { frames := 1, cells := 0, slots := 0, locals := 26 }
abbrev ws_Mo_sum : List Cond := .code y_Mo_sum c_Mo_sum 1 (some .int) :: tpG
noncomputable def m_Mo_sum (N : Nat) (j_in : Int32) (ji_f : Nat → Int32) : Option (Int32) :=
  tp_b1 (m_Mo_sumOf N 10000 (0 : Int32) j_in ji_f) fun r1 =>
  some (r1)
section
variable {p : Program} {l : Launch} {e : Env} {s : State} {m : MethodId} {args : Array Value} {below : List Frame} {meth : Method} {c : Code} {A : Nat → Prop} {D : va_G} {cB cI : ClassId} {tM : Nat}
set_option maxHeartbeats 4000000 in
set_option maxRecDepth 100000 in
theorem ct_Mo_sum {q_j q_ji q_jo q_jm q_jn q_jf : Nat} {j_in : Int32} {j_out : Int32} {j_made : Int32} {j_known : Int32} {j_fat : Int32} {j_flong : Int32} {j_told : Int32} {j_at : Int32} {j_end : Int32} {j_fault : Int32} {j_fp : Int32} {ji_f : Nat → Int32} {jo_f : Nat → Int32} {jm_f : Nat → Int32} {jn_f : Nat → Int32} {jf_f : Nat → Int32} {N : Nat} {r : Int32} (hm : m_Mo_sum N j_in ji_f = some (r)) (sz : Nat) : tp_Ci l y_Mo_sum ws_Mo_sum rm_Mo_sum D (tp_ty cB cI) tM [.ref q_j] [(q_j, .inr (7, [.ref q_ji, .int j_in, .ref q_jo, .int j_out, .ref q_jm, .int j_made, .ref q_jn, .ref q_jf, .int j_known, .int j_fat, .int j_flong, .int j_told, .int j_at, .int j_end, .int j_fault, .int j_fp])), (q_ji, .inl (cB, 10000, .inl ji_f)), (q_jo, .inl (cB, 10000, .inl jo_f)), (q_jm, .inl (cB, 20000, .inl jm_f)), (q_jn, .inl (cI, 10001, .inl jn_f)), (q_jf, .inl (cI, 10001, .inl jf_f))] sz r [(q_j, .inr (7, [.ref q_ji, .int j_in, .ref q_jo, .int j_out, .ref q_jm, .int j_made, .ref q_jn, .ref q_jf, .int j_known, .int j_fat, .int j_flong, .int j_told, .int j_at, .int j_end, .int j_fault, .int j_fp])), (q_ji, .inl (cB, 10000, .inl ji_f)), (q_jo, .inl (cB, 10000, .inl jo_f)), (q_jm, .inl (cB, 20000, .inl jm_f)), (q_jn, .inl (cI, 10001, .inl jn_f)), (q_jf, .inl (cI, 10001, .inl jf_f))] := by
  refine Met.ofW (cc := c_Mo_sum) (maxL := 1) (ret := (some .int)) (by decide) rfl ?_
  intro p e s m args below meth c s₁ B hml hv
  obtain ⟨rfl, hv⟩ := hv
  have hw := tp_entry hv
  generalize va_A [(q_j, .inr (7, [.ref q_ji, .int j_in, .ref q_jo, .int j_out, .ref q_jm, .int j_made, .ref q_jn, .ref q_jf, .int j_known, .int j_fat, .int j_flong, .int j_told, .int j_at, .int j_end, .int j_fault, .int j_fp])), (q_ji, .inl (cB, 10000, .inl ji_f)), (q_jo, .inl (cB, 10000, .inl jo_f)), (q_jm, .inl (cB, 20000, .inl jm_f)), (q_jn, .inl (cI, 10001, .inl jn_f)), (q_jf, .inl (cI, 10001, .inl jf_f))] sz = A at hw ⊢
  have hx := B.exec
  have hb := B.bytes
  have hr := B.returns
  have hts0 := atoms_spec (ws := ws_Mo_sum) B.pre
  have hts := fun w h => hts0 w (List.mem_cons_of_mem _ h)
  have hown : s.vm.findClass R_Mo = some m.cls := findClass_of_methodNamed B.named
  have hlocks := B.notSynchronized
  have hF : CallFix p m c c_Mo_sum 1 s _ tpG R_Mo := ⟨hx, hb, hml, hown, hts⟩
  have hF2 : tp_F p m c c_Mo_sum 1 s _ tpG R_Mo meth (some .int) := ⟨hF, hr, hlocks⟩
  have hl := lv_entry ([.ref q_j]) (n := 1) (Nat.le_of_ble_eq_true rfl)
  rw [lg_entry_eq]
  generalize (lg_sl ([.ref q_j]) ++ List.replicate (1 - (lg_sl ([.ref q_j])).length) Slot.unset).toArray = ls at hl ⊢
  replace hl : lv_has ls 1 [(0, .ref q_j)] := hl
  unfold m_Mo_sum at hm
  refine lv_aload_n hx hb d_Mo_sum_0 rfl (lv_at hl 0 rfl) ?_
  refine tp_get (v := .ref q_ji) (C := R_Mo) (T := T_Mo) hx hb hts fw_Mo hown hw 0 rfl rfl 0 (by decide +kernel) (hts _ wd_333) rfl d_Mo_sum_1 ?_
  refine lv_iconst (v := (0 : Int32)) hx hb d_Mo_sum_4 (by decide +kernel) ?_
  refine lv_aload_n hx hb d_Mo_sum_5 rfl (lv_at hl 0 rfl) ?_
  refine tp_get (v := .int j_in) (C := R_Mo) (T := T_Mo) hx hb hts fw_Mo hown hw 0 rfl rfl 1 (by decide +kernel) (hts _ wd_332) rfl d_Mo_sum_6 ?_
  obtain ⟨r1, hm2, hm⟩ := tp_b1_e hm
  refine tp_calli (wr := [(q_j, .inr (7, [.ref q_ji, .int j_in, .ref q_jo, .int j_out, .ref q_jm, .int j_made, .ref q_jn, .ref q_jf, .int j_known, .int j_fat, .int j_flong, .int j_told, .int j_at, .int j_end, .int j_fault, .int j_fp])), (q_jo, .inl (cB, 10000, .inl jo_f)), (q_jm, .inl (cB, 20000, .inl jm_f)), (q_jn, .inl (cI, 10001, .inl jn_f)), (q_jf, .inl (cI, 10001, .inl jf_f))]) (WS' := [(q_j, .inr (7, [.ref q_ji, .int j_in, .ref q_jo, .int j_out, .ref q_jm, .int j_made, .ref q_jn, .ref q_jf, .int j_known, .int j_fat, .int j_flong, .int j_told, .int j_at, .int j_end, .int j_fault, .int j_fp])), (q_ji, .inl (cB, 10000, .inl ji_f)), (q_jo, .inl (cB, 10000, .inl jo_f)), (q_jm, .inl (cB, 20000, .inl jm_f)), (q_jn, .inl (cI, 10001, .inl jn_f)), (q_jf, .inl (cI, 10001, .inl jf_f))]) (va_runS (As := [.ref q_ji, .int (0 : Int32), .int j_in]) (rest := []) hF (ct_Mo_sumOf (l := l) (D := D) (cB := cB) (cI := cI) (tM := tM) (q_z := q_ji) (z_f := ji_f) (z_n := 10000) (x1 := (0 : Int32)) (x2 := j_in) (N := N) (r := r1) hm2 _) (va_cwS 3 hts (tpG_S wd_452 wd_453 wd_340 wd_451) rfl rfl rfl yd_Mo_sumOf ⟨Nat.le_of_ble_eq_true rfl, Nat.le_of_ble_eq_true rfl⟩) ⟨tp_blind, tp_pre hw [1] rfl rfl⟩ rfl rfl hl.1 rfl (lv_room (Nat.le_of_ble_eq_true rfl)) d_Mo_sum_9 ⟨Nat.le_of_ble_eq_true rfl, Nat.le_of_ble_eq_true rfl⟩) hw [1] [0, 2, 3, 4, 5] [0, 5, 1, 2, 3, 4] rfl rfl rfl (by decide) rfl rfl (fun H locs hw => ?_)
  obtain rfl := tp_inj1 hm
  exact tp_iret hx hb hr hlocks hw d_Mo_sum_12
end
abbrev rm_Mo_size : Room := { frames := 0, cells := 0, slots := 0, locals := 0 }
abbrev ws_Mo_size : List Cond := .code y_Mo_size c_Mo_size 1 (some .int) :: tpG
noncomputable def m_Mo_size (j_out : Int32) : Option (Int32) :=
  some (j_out)
section
variable {p : Program} {l : Launch} {e : Env} {s : State} {m : MethodId} {args : Array Value} {below : List Frame} {meth : Method} {c : Code} {A : Nat → Prop} {D : va_G} {cB cI : ClassId} {tM : Nat}
set_option maxHeartbeats 4000000 in
set_option maxRecDepth 100000 in
theorem ct_Mo_size {q_j q_ji q_jo q_jm q_jn q_jf : Nat} {j_in : Int32} {j_out : Int32} {j_made : Int32} {j_known : Int32} {j_fat : Int32} {j_flong : Int32} {j_told : Int32} {j_at : Int32} {j_end : Int32} {j_fault : Int32} {j_fp : Int32} {ji_f : Nat → Int32} {jo_f : Nat → Int32} {jm_f : Nat → Int32} {jn_f : Nat → Int32} {jf_f : Nat → Int32} {r : Int32} (hm : m_Mo_size j_out = some (r)) (sz : Nat) : tp_Ci l y_Mo_size ws_Mo_size rm_Mo_size D (tp_ty cB cI) tM [.ref q_j] [(q_j, .inr (7, [.ref q_ji, .int j_in, .ref q_jo, .int j_out, .ref q_jm, .int j_made, .ref q_jn, .ref q_jf, .int j_known, .int j_fat, .int j_flong, .int j_told, .int j_at, .int j_end, .int j_fault, .int j_fp])), (q_ji, .inl (cB, 10000, .inl ji_f)), (q_jo, .inl (cB, 10000, .inl jo_f)), (q_jm, .inl (cB, 20000, .inl jm_f)), (q_jn, .inl (cI, 10001, .inl jn_f)), (q_jf, .inl (cI, 10001, .inl jf_f))] sz r [(q_j, .inr (7, [.ref q_ji, .int j_in, .ref q_jo, .int j_out, .ref q_jm, .int j_made, .ref q_jn, .ref q_jf, .int j_known, .int j_fat, .int j_flong, .int j_told, .int j_at, .int j_end, .int j_fault, .int j_fp])), (q_ji, .inl (cB, 10000, .inl ji_f)), (q_jo, .inl (cB, 10000, .inl jo_f)), (q_jm, .inl (cB, 20000, .inl jm_f)), (q_jn, .inl (cI, 10001, .inl jn_f)), (q_jf, .inl (cI, 10001, .inl jf_f))] := by
  refine Met.ofW (cc := c_Mo_size) (maxL := 1) (ret := (some .int)) (by decide) rfl ?_
  intro p e s m args below meth c s₁ B hml hv
  obtain ⟨rfl, hv⟩ := hv
  have hw := tp_entry hv
  generalize va_A [(q_j, .inr (7, [.ref q_ji, .int j_in, .ref q_jo, .int j_out, .ref q_jm, .int j_made, .ref q_jn, .ref q_jf, .int j_known, .int j_fat, .int j_flong, .int j_told, .int j_at, .int j_end, .int j_fault, .int j_fp])), (q_ji, .inl (cB, 10000, .inl ji_f)), (q_jo, .inl (cB, 10000, .inl jo_f)), (q_jm, .inl (cB, 20000, .inl jm_f)), (q_jn, .inl (cI, 10001, .inl jn_f)), (q_jf, .inl (cI, 10001, .inl jf_f))] sz = A at hw ⊢
  have hx := B.exec
  have hb := B.bytes
  have hr := B.returns
  have hts0 := atoms_spec (ws := ws_Mo_size) B.pre
  have hts := fun w h => hts0 w (List.mem_cons_of_mem _ h)
  have hown : s.vm.findClass R_Mo = some m.cls := findClass_of_methodNamed B.named
  have hlocks := B.notSynchronized
  have hF : CallFix p m c c_Mo_size 1 s _ tpG R_Mo := ⟨hx, hb, hml, hown, hts⟩
  have hF2 : tp_F p m c c_Mo_size 1 s _ tpG R_Mo meth (some .int) := ⟨hF, hr, hlocks⟩
  have hl := lv_entry ([.ref q_j]) (n := 1) (Nat.le_of_ble_eq_true rfl)
  rw [lg_entry_eq]
  generalize (lg_sl ([.ref q_j]) ++ List.replicate (1 - (lg_sl ([.ref q_j])).length) Slot.unset).toArray = ls at hl ⊢
  replace hl : lv_has ls 1 [(0, .ref q_j)] := hl
  unfold m_Mo_size at hm
  refine lv_aload_n hx hb d_Mo_size_0 rfl (lv_at hl 0 rfl) ?_
  refine tp_get (v := .int j_out) (C := R_Mo) (T := T_Mo) hx hb hts fw_Mo hown hw 0 rfl rfl 3 (by decide +kernel) (hts _ wd_335) rfl d_Mo_size_1 ?_
  obtain rfl := tp_inj1 hm
  exact tp_iret hx hb hr hlocks hw d_Mo_size_4
end
abbrev rm_Mo_byteAt : Room := { frames := 0, cells := 0, slots := 0, locals := 0 }
abbrev ws_Mo_byteAt : List Cond := .code y_Mo_byteAt c_Mo_byteAt 2 (some .int) :: tpG
noncomputable def m_Mo_byteAt (x1 : Int32) (j_out : Int32) (jo_f : Nat → Int32) : Option (Int32) :=
  if x1 < 0 then
    some ((-1 : Int32))
  else
    if x1 < j_out then
      tp_gd (tp_inb x1 10000) <|
      some (((jo_f (Int32.toNatClampNeg x1)) &&& (255 : Int32)))
    else
      some ((-1 : Int32))
section
variable {p : Program} {l : Launch} {e : Env} {s : State} {m : MethodId} {args : Array Value} {below : List Frame} {meth : Method} {c : Code} {A : Nat → Prop} {D : va_G} {cB cI : ClassId} {tM : Nat}
set_option maxHeartbeats 4000000 in
set_option maxRecDepth 100000 in
theorem ct_Mo_byteAt {q_j q_ji q_jo q_jm q_jn q_jf : Nat} {j_in : Int32} {j_out : Int32} {j_made : Int32} {j_known : Int32} {j_fat : Int32} {j_flong : Int32} {j_told : Int32} {j_at : Int32} {j_end : Int32} {j_fault : Int32} {j_fp : Int32} {ji_f : Nat → Int32} {jo_f : Nat → Int32} {jm_f : Nat → Int32} {jn_f : Nat → Int32} {jf_f : Nat → Int32} {x1 : Int32} {r : Int32} (hm : m_Mo_byteAt x1 j_out jo_f = some (r)) (sz : Nat) : tp_Ci l y_Mo_byteAt ws_Mo_byteAt rm_Mo_byteAt D (tp_ty cB cI) tM [.ref q_j, .int x1] [(q_j, .inr (7, [.ref q_ji, .int j_in, .ref q_jo, .int j_out, .ref q_jm, .int j_made, .ref q_jn, .ref q_jf, .int j_known, .int j_fat, .int j_flong, .int j_told, .int j_at, .int j_end, .int j_fault, .int j_fp])), (q_ji, .inl (cB, 10000, .inl ji_f)), (q_jo, .inl (cB, 10000, .inl jo_f)), (q_jm, .inl (cB, 20000, .inl jm_f)), (q_jn, .inl (cI, 10001, .inl jn_f)), (q_jf, .inl (cI, 10001, .inl jf_f))] sz r [(q_j, .inr (7, [.ref q_ji, .int j_in, .ref q_jo, .int j_out, .ref q_jm, .int j_made, .ref q_jn, .ref q_jf, .int j_known, .int j_fat, .int j_flong, .int j_told, .int j_at, .int j_end, .int j_fault, .int j_fp])), (q_ji, .inl (cB, 10000, .inl ji_f)), (q_jo, .inl (cB, 10000, .inl jo_f)), (q_jm, .inl (cB, 20000, .inl jm_f)), (q_jn, .inl (cI, 10001, .inl jn_f)), (q_jf, .inl (cI, 10001, .inl jf_f))] := by
  refine Met.ofW (cc := c_Mo_byteAt) (maxL := 2) (ret := (some .int)) (by decide) rfl ?_
  intro p e s m args below meth c s₁ B hml hv
  obtain ⟨rfl, hv⟩ := hv
  have hw := tp_entry hv
  generalize va_A [(q_j, .inr (7, [.ref q_ji, .int j_in, .ref q_jo, .int j_out, .ref q_jm, .int j_made, .ref q_jn, .ref q_jf, .int j_known, .int j_fat, .int j_flong, .int j_told, .int j_at, .int j_end, .int j_fault, .int j_fp])), (q_ji, .inl (cB, 10000, .inl ji_f)), (q_jo, .inl (cB, 10000, .inl jo_f)), (q_jm, .inl (cB, 20000, .inl jm_f)), (q_jn, .inl (cI, 10001, .inl jn_f)), (q_jf, .inl (cI, 10001, .inl jf_f))] sz = A at hw ⊢
  have hx := B.exec
  have hb := B.bytes
  have hr := B.returns
  have hts0 := atoms_spec (ws := ws_Mo_byteAt) B.pre
  have hts := fun w h => hts0 w (List.mem_cons_of_mem _ h)
  have hown : s.vm.findClass R_Mo = some m.cls := findClass_of_methodNamed B.named
  have hlocks := B.notSynchronized
  have hF : CallFix p m c c_Mo_byteAt 2 s _ tpG R_Mo := ⟨hx, hb, hml, hown, hts⟩
  have hF2 : tp_F p m c c_Mo_byteAt 2 s _ tpG R_Mo meth (some .int) := ⟨hF, hr, hlocks⟩
  have hl := lv_entry ([.ref q_j, .int x1]) (n := 2) (Nat.le_of_ble_eq_true rfl)
  rw [lg_entry_eq]
  generalize (lg_sl ([.ref q_j, .int x1]) ++ List.replicate (2 - (lg_sl ([.ref q_j, .int x1])).length) Slot.unset).toArray = ls at hl ⊢
  replace hl : lv_has ls 2 [(0, .ref q_j), (1, .int x1)] := hl
  unfold m_Mo_byteAt at hm
  refine lv_iload_n hx hb d_Mo_byteAt_0 rfl (lv_at hl 1 rfl) ?_
  refine lv_if_lt (tgt := 12) hx hb d_Mo_byteAt_1 (by decide +kernel) (fun hc1 => ?_) (fun hc1 => ?_)
  · replace hm := tp_it hc1 hm
    refine lv_iconst (v := (-1 : Int32)) hx hb d_Mo_byteAt_12 (by decide +kernel) ?_
    refine lv_goto (tgt := 26) hx hb d_Mo_byteAt_13 (by decide +kernel) ?_
    obtain rfl := tp_inj1 hm
    exact tp_iret hx hb hr hlocks hw d_Mo_byteAt_26
  · replace hm := tp_if hc1 hm
    refine lv_iload_n hx hb d_Mo_byteAt_4 rfl (lv_at hl 1 rfl) ?_
    refine lv_aload_n hx hb d_Mo_byteAt_5 rfl (lv_at hl 0 rfl) ?_
    refine tp_get (v := .int j_out) (C := R_Mo) (T := T_Mo) hx hb hts fw_Mo hown hw 0 rfl rfl 3 (by decide +kernel) (hts _ wd_335) rfl d_Mo_byteAt_6 ?_
    refine lv_icmp_lt (tgt := 16) hx hb d_Mo_byteAt_9 (by decide +kernel) (fun hc2 => ?_) (fun hc2 => ?_)
    · replace hm := tp_it hc2 hm
      refine lv_aload_n hx hb d_Mo_byteAt_16 rfl (lv_at hl 0 rfl) ?_
      refine tp_get (v := .ref q_jo) (C := R_Mo) (T := T_Mo) hx hb hts fw_Mo hown hw 0 rfl rfl 2 (by decide +kernel) (hts _ wd_336) rfl d_Mo_byteAt_17 ?_
      refine lv_iload_n hx hb d_Mo_byteAt_20 rfl (lv_at hl 1 rfl) ?_
      obtain ⟨hi3, hm⟩ := tp_gd_e hm
      refine tp_bald hx hb hw 2 0 rfl rfl hi3 d_Mo_byteAt_21 ?_
      refine lv_sipush (v := (255 : Int32)) hx hb d_Mo_byteAt_22 (by decide +kernel) ?_
      refine lv_iand hx hb d_Mo_byteAt_25 ?_
      obtain rfl := tp_inj1 hm
      exact tp_iret hx hb hr hlocks hw d_Mo_byteAt_26
    · replace hm := tp_if hc2 hm
      refine lv_iconst (v := (-1 : Int32)) hx hb d_Mo_byteAt_12 (by decide +kernel) ?_
      refine lv_goto (tgt := 26) hx hb d_Mo_byteAt_13 (by decide +kernel) ?_
      obtain rfl := tp_inj1 hm
      exact tp_iret hx hb hr hlocks hw d_Mo_byteAt_26
end
abbrev rm_Mo_init : Room := { frames := 1, cells := 5, slots := 60002, locals := 12 }
abbrev ws_Mo_init : List Cond := .code y_Mo_init c_Mo_init 1 none :: tpG
section
variable {p : Program} {l : Launch} {e : Env} {s : State} {m : MethodId} {args : Array Value} {below : List Frame} {meth : Method} {c : Code} {A : Nat → Prop} {D : va_G} {cB cI : ClassId} {tM : Nat}
set_option maxHeartbeats 4000000 in
set_option maxRecDepth 100000 in
theorem ct_Mo_init {q_j : Nat} (sz : Nat) : tp_Cn (S := Nat × Nat × Nat × Nat × Nat) l y_Mo_init ws_Mo_init rm_Mo_init D (tp_ty cB cI) tM [.ref q_j] [(q_j, .inr (7, [.null, .int 0, .null, .int 0, .null, .int 0, .null, .null, .int 0, .int 0, .int 0, .int 0, .int 0, .int 0, .int 0, .int 0]))] sz (fun u => [(q_j, .inr (7, [.ref u.1, .int 0, .ref u.2.1, .int 0, .ref u.2.2.1, .int 0, .ref u.2.2.2.1, .ref u.2.2.2.2, .int 0, .int 0, .int 0, .int 0, .int 0, .int 0, .int 0, .int 0])), (u.1, .inl (cB, 10000, .inl (fun _ => 0))), (u.2.1, .inl (cB, 10000, .inl (fun _ => 0))), (u.2.2.1, .inl (cB, 20000, .inl (fun _ => 0))), (u.2.2.2.1, .inl (cI, 10001, .inl (fun _ => 0))), (u.2.2.2.2, .inl (cI, 10001, .inl (fun _ => 0)))]) 5 60002 := by
  refine Met.ofW (cc := c_Mo_init) (maxL := 1) (ret := none) (by decide) rfl ?_
  intro p e s m args below meth c s₁ B hml hv
  obtain ⟨rfl, hv⟩ := hv
  have hw := tp_entry hv
  generalize va_A [(q_j, .inr (7, [.null, .int 0, .null, .int 0, .null, .int 0, .null, .null, .int 0, .int 0, .int 0, .int 0, .int 0, .int 0, .int 0, .int 0]))] sz = A at hw ⊢
  have hx := B.exec
  have hb := B.bytes
  have hr := B.returns
  have hts0 := atoms_spec (ws := ws_Mo_init) B.pre
  have hts := fun w h => hts0 w (List.mem_cons_of_mem _ h)
  have hown : s.vm.findClass R_Mo = some m.cls := findClass_of_methodNamed B.named
  have hlocks := B.notSynchronized
  have hin : meth.name = "<init>" := (name_of_methodNamed B.named B.method).1
  have hF : CallFix p m c c_Mo_init 1 s _ tpG R_Mo := ⟨hx, hb, hml, hown, hts⟩
  have hF2 : tp_F p m c c_Mo_init 1 s _ tpG R_Mo meth none := ⟨hF, hr, hlocks⟩
  have hl := lv_entry ([.ref q_j]) (n := 1) (Nat.le_of_ble_eq_true rfl)
  rw [lg_entry_eq]
  generalize (lg_sl ([.ref q_j]) ++ List.replicate (1 - (lg_sl ([.ref q_j])).length) Slot.unset).toArray = ls at hl ⊢
  replace hl : lv_has ls 1 [(0, .ref q_j)] := hl
  have hm : some () = some () := rfl
  refine lv_aload_n hx hb d_Mo_init_0 rfl (lv_at hl 0 rfl) ?_
  refine W.objInit hx hb hown (hts _ wd_474) (hts _ wd_293) (hts _ wd_294) rfl (by rw [hml]; exact hl.1) rfl d_Mo_init_1 (Nat.le_of_ble_eq_true rfl) (Nat.le_of_ble_eq_true rfl) ?_
  refine W.eq (g2 := F0 m 4 ls []) rfl ?_
  refine lv_aload_n hx hb d_Mo_init_4 rfl (lv_at hl 0 rfl) ?_
  refine lv_sipush (v := (10000 : Int32)) hx hb d_Mo_init_5 (by decide +kernel) ?_
  refine tp_newaB (N' := 10000) hx hb (hts _ wd_295) hw (by decide +kernel) (by decide +kernel) (by decide +kernel) (Nat.le_of_ble_eq_true rfl) (Nat.le_of_ble_eq_true rfl) d_Mo_init_8 rfl (fun q_n8 H hw => ?_)
  replace hw : tp_Wd D (tp_ty cB cI) tM A s _ _ [(q_j, .inr (7, [.null, .int 0, .null, .int 0, .null, .int 0, .null, .null, .int 0, .int 0, .int 0, .int 0, .int 0, .int 0, .int 0, .int 0])), (q_n8, .inl (cB, 10000, .inl (fun _ => 0)))] := hw
  refine tp_putF (v := .ref q_n8) (C := R_Mo) (T := T_Mo) (WS' := [(q_j, .inr (7, [.ref q_n8, .int 0, .null, .int 0, .null, .int 0, .null, .null, .int 0, .int 0, .int 0, .int 0, .int 0, .int 0, .int 0, .int 0])), (q_n8, .inl (cB, 10000, .inl (fun _ => 0)))]) hx hb hts fw_Mo ty_Mo ty_Mo_ok nm_Mo hown hw 0 rfl rfl 0 (by decide +kernel) (hts _ wd_333) rfl hin rfl rfl rfl (Nat.le_of_ble_eq_true rfl) rfl d_Mo_init_10 (fun H locs hw => ?_)
  refine lv_aload_n hx hb d_Mo_init_13 rfl (lv_at hl 0 rfl) ?_
  refine lv_sipush (v := (10000 : Int32)) hx hb d_Mo_init_14 (by decide +kernel) ?_
  refine tp_newaB (N' := 10000) hx hb (hts _ wd_295) hw (by decide +kernel) (by decide +kernel) (by decide +kernel) (Nat.le_of_ble_eq_true rfl) (Nat.le_of_ble_eq_true rfl) d_Mo_init_17 rfl (fun q_n17 H hw => ?_)
  replace hw : tp_Wd D (tp_ty cB cI) tM A s _ _ [(q_j, .inr (7, [.ref q_n8, .int 0, .null, .int 0, .null, .int 0, .null, .null, .int 0, .int 0, .int 0, .int 0, .int 0, .int 0, .int 0, .int 0])), (q_n8, .inl (cB, 10000, .inl (fun _ => 0))), (q_n17, .inl (cB, 10000, .inl (fun _ => 0)))] := hw
  refine tp_putF (v := .ref q_n17) (C := R_Mo) (T := T_Mo) (WS' := [(q_j, .inr (7, [.ref q_n8, .int 0, .ref q_n17, .int 0, .null, .int 0, .null, .null, .int 0, .int 0, .int 0, .int 0, .int 0, .int 0, .int 0, .int 0])), (q_n8, .inl (cB, 10000, .inl (fun _ => 0))), (q_n17, .inl (cB, 10000, .inl (fun _ => 0)))]) hx hb hts fw_Mo ty_Mo ty_Mo_ok nm_Mo hown hw 0 rfl rfl 2 (by decide +kernel) (hts _ wd_336) rfl hin rfl rfl rfl (Nat.le_of_ble_eq_true rfl) rfl d_Mo_init_19 (fun H locs hw => ?_)
  refine lv_aload_n hx hb d_Mo_init_22 rfl (lv_at hl 0 rfl) ?_
  refine lv_sipush (v := (20000 : Int32)) hx hb d_Mo_init_23 (by decide +kernel) ?_
  refine tp_newaB (N' := 20000) hx hb (hts _ wd_295) hw (by decide +kernel) (by decide +kernel) (by decide +kernel) (Nat.le_of_ble_eq_true rfl) (Nat.le_of_ble_eq_true rfl) d_Mo_init_26 rfl (fun q_n26 H hw => ?_)
  replace hw : tp_Wd D (tp_ty cB cI) tM A s _ _ [(q_j, .inr (7, [.ref q_n8, .int 0, .ref q_n17, .int 0, .null, .int 0, .null, .null, .int 0, .int 0, .int 0, .int 0, .int 0, .int 0, .int 0, .int 0])), (q_n8, .inl (cB, 10000, .inl (fun _ => 0))), (q_n17, .inl (cB, 10000, .inl (fun _ => 0))), (q_n26, .inl (cB, 20000, .inl (fun _ => 0)))] := hw
  refine tp_putF (v := .ref q_n26) (C := R_Mo) (T := T_Mo) (WS' := [(q_j, .inr (7, [.ref q_n8, .int 0, .ref q_n17, .int 0, .ref q_n26, .int 0, .null, .null, .int 0, .int 0, .int 0, .int 0, .int 0, .int 0, .int 0, .int 0])), (q_n8, .inl (cB, 10000, .inl (fun _ => 0))), (q_n17, .inl (cB, 10000, .inl (fun _ => 0))), (q_n26, .inl (cB, 20000, .inl (fun _ => 0)))]) hx hb hts fw_Mo ty_Mo ty_Mo_ok nm_Mo hown hw 0 rfl rfl 4 (by decide +kernel) (hts _ wd_338) rfl hin rfl rfl rfl (Nat.le_of_ble_eq_true rfl) rfl d_Mo_init_28 (fun H locs hw => ?_)
  refine lv_aload_n hx hb d_Mo_init_31 rfl (lv_at hl 0 rfl) ?_
  refine lv_sipush (v := (10001 : Int32)) hx hb d_Mo_init_32 (by decide +kernel) ?_
  refine tp_newaI (N' := 10001) hx hb (hts _ wd_297) hw (by decide +kernel) (by decide +kernel) (by decide +kernel) (Nat.le_of_ble_eq_true rfl) (Nat.le_of_ble_eq_true rfl) d_Mo_init_35 rfl (fun q_n35 H hw => ?_)
  replace hw : tp_Wd D (tp_ty cB cI) tM A s _ _ [(q_j, .inr (7, [.ref q_n8, .int 0, .ref q_n17, .int 0, .ref q_n26, .int 0, .null, .null, .int 0, .int 0, .int 0, .int 0, .int 0, .int 0, .int 0, .int 0])), (q_n8, .inl (cB, 10000, .inl (fun _ => 0))), (q_n17, .inl (cB, 10000, .inl (fun _ => 0))), (q_n26, .inl (cB, 20000, .inl (fun _ => 0))), (q_n35, .inl (cI, 10001, .inl (fun _ => 0)))] := hw
  refine tp_putF (v := .ref q_n35) (C := R_Mo) (T := T_Mo) (WS' := [(q_j, .inr (7, [.ref q_n8, .int 0, .ref q_n17, .int 0, .ref q_n26, .int 0, .ref q_n35, .null, .int 0, .int 0, .int 0, .int 0, .int 0, .int 0, .int 0, .int 0])), (q_n8, .inl (cB, 10000, .inl (fun _ => 0))), (q_n17, .inl (cB, 10000, .inl (fun _ => 0))), (q_n26, .inl (cB, 20000, .inl (fun _ => 0))), (q_n35, .inl (cI, 10001, .inl (fun _ => 0)))]) hx hb hts fw_Mo ty_Mo ty_Mo_ok nm_Mo hown hw 0 rfl rfl 6 (by decide +kernel) (hts _ wd_359) rfl hin rfl rfl rfl (Nat.le_of_ble_eq_true rfl) rfl d_Mo_init_37 (fun H locs hw => ?_)
  refine lv_aload_n hx hb d_Mo_init_40 rfl (lv_at hl 0 rfl) ?_
  refine lv_sipush (v := (10001 : Int32)) hx hb d_Mo_init_41 (by decide +kernel) ?_
  refine tp_newaI (N' := 10001) hx hb (hts _ wd_297) hw (by decide +kernel) (by decide +kernel) (by decide +kernel) (Nat.le_of_ble_eq_true rfl) (Nat.le_of_ble_eq_true rfl) d_Mo_init_44 rfl (fun q_n44 H hw => ?_)
  replace hw : tp_Wd D (tp_ty cB cI) tM A s _ _ [(q_j, .inr (7, [.ref q_n8, .int 0, .ref q_n17, .int 0, .ref q_n26, .int 0, .ref q_n35, .null, .int 0, .int 0, .int 0, .int 0, .int 0, .int 0, .int 0, .int 0])), (q_n8, .inl (cB, 10000, .inl (fun _ => 0))), (q_n17, .inl (cB, 10000, .inl (fun _ => 0))), (q_n26, .inl (cB, 20000, .inl (fun _ => 0))), (q_n35, .inl (cI, 10001, .inl (fun _ => 0))), (q_n44, .inl (cI, 10001, .inl (fun _ => 0)))] := hw
  refine tp_putF (v := .ref q_n44) (C := R_Mo) (T := T_Mo) (WS' := [(q_j, .inr (7, [.ref q_n8, .int 0, .ref q_n17, .int 0, .ref q_n26, .int 0, .ref q_n35, .ref q_n44, .int 0, .int 0, .int 0, .int 0, .int 0, .int 0, .int 0, .int 0])), (q_n8, .inl (cB, 10000, .inl (fun _ => 0))), (q_n17, .inl (cB, 10000, .inl (fun _ => 0))), (q_n26, .inl (cB, 20000, .inl (fun _ => 0))), (q_n35, .inl (cI, 10001, .inl (fun _ => 0))), (q_n44, .inl (cI, 10001, .inl (fun _ => 0)))]) hx hb hts fw_Mo ty_Mo ty_Mo_ok nm_Mo hown hw 0 rfl rfl 7 (by decide +kernel) (hts _ wd_358) rfl hin rfl rfl rfl (Nat.le_of_ble_eq_true rfl) rfl d_Mo_init_46 (fun H locs hw => ?_)
  exact tp_vret (q_n8, q_n17, q_n26, q_n35, q_n44) hx hb hr hlocks hw d_Mo_init_49
end
