abbrev rm_Mo_write : Room := { frames := 0, cells := 0, slots := 0, locals := 0 }
abbrev ws_Mo_write : List Cond := .code y_Mo_write c_Mo_write 5 (some .boolean) :: tpG
noncomputable def m_Mo_write_28 (N : Nat) (rec28 : Int64 → Int32 → Int32 → Int32 → (Nat → Int32) → Option (Int32 × Int32 × (Nat → Int32))) (x1 : Int64) (x3 : Int32) (x4 : Int32) (j_in : Int32) (ji_f : Nat → Int32) : Option (Int32 × Int32 × (Nat → Int32)) :=
  if x3 ≤ x4 then
    some ((1 : Int32), j_in, ji_f)
  else
    tp_gd (tp_inb j_in 10000) <|
    rec28 x1 x3 (x4 + (1 : Int32)) (j_in + (1 : Int32)) (upd ji_f (Int32.toNatClampNeg j_in) (vp_nar .byte (Int8.toInt32 (Int32.toInt8 (Int64.toInt32 (tp_lushr x1 ((56 : Int32) - ((8 : Int32) * x4))))))))
noncomputable def m_Mo_write (N : Nat) (x1 : Int64) (x3 : Int32) (j_in : Int32) (ji_f : Nat → Int32) : Option (Int32 × Int32 × (Nat → Int32)) :=
  if x3 < (1 : Int32) then
    some ((0 : Int32), j_in, ji_f)
  else
    if (8 : Int32) < x3 then
      some ((0 : Int32), j_in, ji_f)
    else
      if (j_in + x3) ≤ (10000 : Int32) then
        tp_it5 (m_Mo_write_28 N ) N x1 x3 (0 : Int32) j_in ji_f
      else
        some ((0 : Int32), j_in, ji_f)
section
variable {p : Program} {l : Launch} {e : Env} {s : State} {m : MethodId} {args : Array Value} {below : List Frame} {meth : Method} {c : Code} {A : Nat → Prop} {D : va_G} {cB cI : ClassId} {tM : Nat}
set_option maxHeartbeats 4000000 in
set_option maxRecDepth 100000 in
theorem w_Mo_write_28 {q_j q_ji q_jo q_jm q_jn q_jf : Nat} {j_out : Int32} {j_made : Int32} {j_known : Int32} {j_fat : Int32} {j_flong : Int32} {j_told : Int32} {j_at : Int32} {j_end : Int32} {j_fault : Int32} {j_fp : Int32} {jo_f : Nat → Int32} {jm_f : Nat → Int32} {jn_f : Nat → Int32} {jf_f : Nat → Int32} {N : Nat} {r : Int32} {j_in' : Int32} {ji_f' : Nat → Int32} (hF2 : tp_F p m c c_Mo_write 5 s args tpG R_Mo meth (some .boolean)) : ∀ (n : Nat), ∀ (x1 : Int64) (x3 : Int32) (x4 : Int32) (j_in : Int32) (ji_f : Nat → Int32) (H : Heap) (locs : List Loc) (ls : Array Slot), tp_it5 (m_Mo_write_28 N ) n x1 x3 x4 j_in ji_f = some (r, j_in', ji_f') → tp_Wd D (tp_ty cB cI) tM A s H locs [(q_j, .inr (7, [.ref q_ji, .int j_in, .ref q_jo, .int j_out, .ref q_jm, .int j_made, .ref q_jn, .ref q_jf, .int j_known, .int j_fat, .int j_flong, .int j_told, .int j_at, .int j_end, .int j_fault, .int j_fp])), (q_ji, .inl (cB, 10000, .inl ji_f)), (q_jo, .inl (cB, 10000, .inl jo_f)), (q_jm, .inl (cB, 20000, .inl jm_f)), (q_jn, .inl (cI, 10001, .inl jn_f)), (q_jf, .inl (cI, 10001, .inl jf_f))] → lv_has ls 5 [(0, .ref q_j), (1, .long x1), (3, .int x3), (4, .int x4)] → W p l e rm_Mo_write s m args below meth c H locs 0 0 (MQ below (tp_Qi D A r [(q_j, .inr (7, [.ref q_ji, .int j_in', .ref q_jo, .int j_out, .ref q_jm, .int j_made, .ref q_jn, .ref q_jf, .int j_known, .int j_fat, .int j_flong, .int j_told, .int j_at, .int j_end, .int j_fault, .int j_fp])), (q_ji, .inl (cB, 10000, .inl ji_f')), (q_jo, .inl (cB, 10000, .inl jo_f)), (q_jm, .inl (cB, 20000, .inl jm_f)), (q_jn, .inl (cI, 10001, .inl jn_f)), (q_jf, .inl (cI, 10001, .inl jf_f))]) args s 0 0 A) (F0 m 28 ls []) := by
  obtain ⟨hF, hr, hlocks⟩ := id hF2
  obtain ⟨hx, hb, hml, hown, hts⟩ := id hF
  intro n
  induction n with
  | zero => intro x1 x3 x4 j_in ji_f H locs ls hm; exact absurd hm (by simp [tp_it5])
  | succ n ih28 =>
    intro x1 x3 x4 j_in ji_f H locs ls hm hw hl
    replace hm : m_Mo_write_28 N  (tp_it5 (m_Mo_write_28 N ) n) x1 x3 x4 j_in ji_f = some (r, j_in', ji_f') := hm
    unfold m_Mo_write_28 at hm
    refine lv_iload hx hb d_Mo_write_28 (lv_at hl 3 rfl) ?_
    refine lv_iload_n hx hb d_Mo_write_30 rfl (lv_at hl 2 rfl) ?_
    refine lv_icmp_ge (tgt := 71) hx hb d_Mo_write_31 (by decide +kernel) (fun hc4 => ?_) (fun hc4 => ?_)
    · replace hm := tp_it hc4 hm
      refine lv_iconst (v := (1 : Int32)) hx hb d_Mo_write_71 (by decide +kernel) ?_
      obtain ⟨rfl, rfl, rfl⟩ := tp_inj3 hm
      exact tp_zret hx hb hr hlocks rfl hw d_Mo_write_72
    · replace hm := tp_if hc4 hm
      refine lv_aload_n hx hb d_Mo_write_34 rfl (lv_at hl 0 rfl) ?_
      refine tp_get (v := .ref q_ji) (C := R_Mo) (T := T_Mo) hx hb hts fw_Mo hown hw 0 rfl rfl 0 (by decide +kernel) (hts _ wd_333) rfl d_Mo_write_35 ?_
      refine lv_aload_n hx hb d_Mo_write_38 rfl (lv_at hl 0 rfl) ?_
      refine tp_get (v := .int j_in) (C := R_Mo) (T := T_Mo) hx hb hts fw_Mo hown hw 0 rfl rfl 1 (by decide +kernel) (hts _ wd_332) rfl d_Mo_write_39 ?_
      refine lv_lload_n hx hb d_Mo_write_42 rfl (lv_at hl 1 rfl) ?_
      refine lv_bipush (v := (56 : Int32)) hx hb d_Mo_write_43 (by decide +kernel) ?_
      refine lv_bipush (v := (8 : Int32)) hx hb d_Mo_write_45 (by decide +kernel) ?_
      refine lv_iload hx hb d_Mo_write_47 (lv_at hl 3 rfl) ?_
      refine lv_imul hx hb d_Mo_write_49 ?_
      refine lv_isub hx hb d_Mo_write_50 ?_
      refine lv_lushr (v := (tp_lushr x1 ((56 : Int32) - ((8 : Int32) * x4)))) hx hb d_Mo_write_51 rfl ?_
      refine lv_l2i (v := (Int64.toInt32 (tp_lushr x1 ((56 : Int32) - ((8 : Int32) * x4))))) hx hb d_Mo_write_52 rfl ?_
      refine lv_i2b (v := (Int8.toInt32 (Int32.toInt8 (Int64.toInt32 (tp_lushr x1 ((56 : Int32) - ((8 : Int32) * x4))))))) hx hb d_Mo_write_53 rfl ?_
      obtain ⟨hi5, hm⟩ := tp_gd_e hm
      refine tp_bast (WS' := [(q_j, .inr (7, [.ref q_ji, .int j_in, .ref q_jo, .int j_out, .ref q_jm, .int j_made, .ref q_jn, .ref q_jf, .int j_known, .int j_fat, .int j_flong, .int j_told, .int j_at, .int j_end, .int j_fault, .int j_fp])), (q_ji, .inl (cB, 10000, .inl (upd ji_f (Int32.toNatClampNeg j_in) (vp_nar .byte (Int8.toInt32 (Int32.toInt8 (Int64.toInt32 (tp_lushr x1 ((56 : Int32) - ((8 : Int32) * x4)))))))))), (q_jo, .inl (cB, 10000, .inl jo_f)), (q_jm, .inl (cB, 20000, .inl jm_f)), (q_jn, .inl (cI, 10001, .inl jn_f)), (q_jf, .inl (cI, 10001, .inl jf_f))]) hx hb hw 1 0 rfl rfl hi5 rfl d_Mo_write_54 (fun H locs hw => ?_)
      refine lv_aload_n hx hb d_Mo_write_55 rfl (lv_at hl 0 rfl) ?_
      refine lv_dup hx hb d_Mo_write_56 rfl ?_
      refine tp_get (v := .int j_in) (C := R_Mo) (T := T_Mo) hx hb hts fw_Mo hown hw 0 rfl rfl 1 (by decide +kernel) (hts _ wd_332) rfl d_Mo_write_57 ?_
      refine lv_iconst (v := (1 : Int32)) hx hb d_Mo_write_60 (by decide +kernel) ?_
      refine lv_iadd hx hb d_Mo_write_61 ?_
      refine tp_put (v := .int (j_in + (1 : Int32))) (C := R_Mo) (T := T_Mo) (WS' := [(q_j, .inr (7, [.ref q_ji, .int (j_in + (1 : Int32)), .ref q_jo, .int j_out, .ref q_jm, .int j_made, .ref q_jn, .ref q_jf, .int j_known, .int j_fat, .int j_flong, .int j_told, .int j_at, .int j_end, .int j_fault, .int j_fp])), (q_ji, .inl (cB, 10000, .inl (upd ji_f (Int32.toNatClampNeg j_in) (vp_nar .byte (Int8.toInt32 (Int32.toInt8 (Int64.toInt32 (tp_lushr x1 ((56 : Int32) - ((8 : Int32) * x4)))))))))), (q_jo, .inl (cB, 10000, .inl jo_f)), (q_jm, .inl (cB, 20000, .inl jm_f)), (q_jn, .inl (cI, 10001, .inl jn_f)), (q_jf, .inl (cI, 10001, .inl jf_f))]) hx hb hts fw_Mo ty_Mo ty_Mo_ok nm_Mo hown hw 0 rfl rfl 1 (by decide +kernel) (hts _ wd_332) rfl rfl rfl (Nat.le_of_ble_eq_true rfl) rfl d_Mo_write_62 (fun H locs hw => ?_)
      refine lv_iinc (v := (x4 + (1 : Int32))) (lv' := [(4, .int (x4 + (1 : Int32))), (0, .ref q_j), (1, .long x1), (3, .int x3)]) hx hb d_Mo_write_65 hl (k := 3) rfl rfl (by decide +kernel) rfl (fun ls hl => ?_)
      refine lv_goto (tgt := 28) hx hb d_Mo_write_68 (by decide +kernel) ?_
      exact ih28 _ _ _ _ _ _ _ _ hm hw (lv_sub hl [1, 2, 3, 0] rfl)
set_option maxHeartbeats 4000000 in
set_option maxRecDepth 100000 in
theorem ct_Mo_write {q_j q_ji q_jo q_jm q_jn q_jf : Nat} {j_in : Int32} {j_out : Int32} {j_made : Int32} {j_known : Int32} {j_fat : Int32} {j_flong : Int32} {j_told : Int32} {j_at : Int32} {j_end : Int32} {j_fault : Int32} {j_fp : Int32} {ji_f : Nat → Int32} {jo_f : Nat → Int32} {jm_f : Nat → Int32} {jn_f : Nat → Int32} {jf_f : Nat → Int32} {N : Nat} {x1 : Int64} {x3 : Int32} {r : Int32} {j_in' : Int32} {ji_f' : Nat → Int32} (hm : m_Mo_write N x1 x3 j_in ji_f = some (r, j_in', ji_f')) (sz : Nat) : tp_Ci l y_Mo_write ws_Mo_write rm_Mo_write D (tp_ty cB cI) tM [.ref q_j, .long x1, .int x3] [(q_j, .inr (7, [.ref q_ji, .int j_in, .ref q_jo, .int j_out, .ref q_jm, .int j_made, .ref q_jn, .ref q_jf, .int j_known, .int j_fat, .int j_flong, .int j_told, .int j_at, .int j_end, .int j_fault, .int j_fp])), (q_ji, .inl (cB, 10000, .inl ji_f)), (q_jo, .inl (cB, 10000, .inl jo_f)), (q_jm, .inl (cB, 20000, .inl jm_f)), (q_jn, .inl (cI, 10001, .inl jn_f)), (q_jf, .inl (cI, 10001, .inl jf_f))] sz r [(q_j, .inr (7, [.ref q_ji, .int j_in', .ref q_jo, .int j_out, .ref q_jm, .int j_made, .ref q_jn, .ref q_jf, .int j_known, .int j_fat, .int j_flong, .int j_told, .int j_at, .int j_end, .int j_fault, .int j_fp])), (q_ji, .inl (cB, 10000, .inl ji_f')), (q_jo, .inl (cB, 10000, .inl jo_f)), (q_jm, .inl (cB, 20000, .inl jm_f)), (q_jn, .inl (cI, 10001, .inl jn_f)), (q_jf, .inl (cI, 10001, .inl jf_f))] := by
  refine Met.ofW (cc := c_Mo_write) (maxL := 5) (ret := (some .boolean)) (by decide) rfl ?_
  intro p e s m args below meth c s₁ B hml hv
  obtain ⟨rfl, hv⟩ := hv
  have hw := tp_entry hv
  generalize va_A [(q_j, .inr (7, [.ref q_ji, .int j_in, .ref q_jo, .int j_out, .ref q_jm, .int j_made, .ref q_jn, .ref q_jf, .int j_known, .int j_fat, .int j_flong, .int j_told, .int j_at, .int j_end, .int j_fault, .int j_fp])), (q_ji, .inl (cB, 10000, .inl ji_f)), (q_jo, .inl (cB, 10000, .inl jo_f)), (q_jm, .inl (cB, 20000, .inl jm_f)), (q_jn, .inl (cI, 10001, .inl jn_f)), (q_jf, .inl (cI, 10001, .inl jf_f))] sz = A at hw ⊢
  have hx := B.exec
  have hb := B.bytes
  have hr := B.returns
  have hts0 := atoms_spec (ws := ws_Mo_write) B.pre
  have hts := fun w h => hts0 w (List.mem_cons_of_mem _ h)
  have hown : s.vm.findClass R_Mo = some m.cls := findClass_of_methodNamed B.named
  have hlocks := B.notSynchronized
  have hF : CallFix p m c c_Mo_write 5 s _ tpG R_Mo := ⟨hx, hb, hml, hown, hts⟩
  have hF2 : tp_F p m c c_Mo_write 5 s _ tpG R_Mo meth (some .boolean) := ⟨hF, hr, hlocks⟩
  have hl := lv_entry ([.ref q_j, .long x1, .int x3]) (n := 5) (Nat.le_of_ble_eq_true rfl)
  rw [lg_entry_eq]
  generalize (lg_sl ([.ref q_j, .long x1, .int x3]) ++ List.replicate (5 - (lg_sl ([.ref q_j, .long x1, .int x3])).length) Slot.unset).toArray = ls at hl ⊢
  replace hl : lv_has ls 5 [(0, .ref q_j), (1, .long x1), (3, .int x3)] := hl
  unfold m_Mo_write at hm
  refine lv_iload_n hx hb d_Mo_write_0 rfl (lv_at hl 2 rfl) ?_
  refine lv_iconst (v := (1 : Int32)) hx hb d_Mo_write_1 (by decide +kernel) ?_
  refine lv_icmp_lt (tgt := 23) hx hb d_Mo_write_2 (by decide +kernel) (fun hc1 => ?_) (fun hc1 => ?_)
  · replace hm := tp_it hc1 hm
    refine lv_iconst (v := (0 : Int32)) hx hb d_Mo_write_23 (by decide +kernel) ?_
    obtain ⟨rfl, rfl, rfl⟩ := tp_inj3 hm
    exact tp_zret hx hb hr hlocks rfl hw d_Mo_write_24
  · replace hm := tp_if hc1 hm
    refine lv_iload_n hx hb d_Mo_write_5 rfl (lv_at hl 2 rfl) ?_
    refine lv_bipush (v := (8 : Int32)) hx hb d_Mo_write_6 (by decide +kernel) ?_
    refine lv_icmp_gt (tgt := 23) hx hb d_Mo_write_8 (by decide +kernel) (fun hc2 => ?_) (fun hc2 => ?_)
    · replace hm := tp_it hc2 hm
      refine lv_iconst (v := (0 : Int32)) hx hb d_Mo_write_23 (by decide +kernel) ?_
      obtain ⟨rfl, rfl, rfl⟩ := tp_inj3 hm
      exact tp_zret hx hb hr hlocks rfl hw d_Mo_write_24
    · replace hm := tp_if hc2 hm
      refine lv_aload_n hx hb d_Mo_write_11 rfl (lv_at hl 0 rfl) ?_
      refine tp_get (v := .int j_in) (C := R_Mo) (T := T_Mo) hx hb hts fw_Mo hown hw 0 rfl rfl 1 (by decide +kernel) (hts _ wd_332) rfl d_Mo_write_12 ?_
      refine lv_iload_n hx hb d_Mo_write_15 rfl (lv_at hl 2 rfl) ?_
      refine lv_iadd hx hb d_Mo_write_16 ?_
      refine lv_sipush (v := (10000 : Int32)) hx hb d_Mo_write_17 (by decide +kernel) ?_
      refine lv_icmp_le (tgt := 25) hx hb d_Mo_write_20 (by decide +kernel) (fun hc3 => ?_) (fun hc3 => ?_)
      · replace hm := tp_it hc3 hm
        refine lv_iconst (v := (0 : Int32)) hx hb d_Mo_write_25 (by decide +kernel) ?_
        refine lv_istore (lv' := [(4, .int (0 : Int32)), (0, .ref q_j), (1, .long x1), (3, .int x3)]) hx hb d_Mo_write_26 hl (by decide +kernel) rfl (fun ls hl => ?_)
        exact w_Mo_write_28 hF2  N _ _ _ _ _ _ _ _ hm hw (lv_sub hl [1, 2, 3, 0] rfl)
      · replace hm := tp_if hc3 hm
        refine lv_iconst (v := (0 : Int32)) hx hb d_Mo_write_23 (by decide +kernel) ?_
        obtain ⟨rfl, rfl, rfl⟩ := tp_inj3 hm
        exact tp_zret hx hb hr hlocks rfl hw d_Mo_write_24
end
abbrev rm_Mo_again : Room := { frames := 0, cells := 0, slots := 0, locals := 0 }
abbrev ws_Mo_again : List Cond := .code y_Mo_again c_Mo_again 5 (some .boolean) :: tpG
noncomputable def m_Mo_again_44 (N : Nat) (rec44 : Int32 → Int32 → Int32 → Int32 → (Nat → Int32) → Option (Int32 × Int32 × (Nat → Int32))) (x1 : Int32) (x3 : Int32) (x4 : Int32) (j_in : Int32) (ji_f : Nat → Int32) : Option (Int32 × Int32 × (Nat → Int32)) :=
  if x3 ≤ x4 then
    some ((1 : Int32), j_in, ji_f)
  else
    tp_gd (tp_inb (j_in - x1) 10000) <|
    tp_gd (tp_inb j_in 10000) <|
    rec44 x1 x3 (x4 + (1 : Int32)) (j_in + (1 : Int32)) (upd ji_f (Int32.toNatClampNeg j_in) (vp_nar .byte (ji_f (Int32.toNatClampNeg (j_in - x1)))))
noncomputable def m_Mo_again (N : Nat) (x1 : Int32) (x2 : Int32) (j_in : Int32) (ji_f : Nat → Int32) : Option (Int32 × Int32 × (Nat → Int32)) :=
  if x1 < (1 : Int32) then
    some ((0 : Int32), j_in, ji_f)
  else
    if j_in < x1 then
      some ((0 : Int32), j_in, ji_f)
    else
      if x2 < 0 then
        some ((0 : Int32), j_in, ji_f)
      else
        if (lg_cmp ((Int32.toInt64 j_in) + ((Int32.toInt64 x1) * (Int32.toInt64 x2))) (10000 : Int64)) ≤ 0 then
          tp_it5 (m_Mo_again_44 N ) N x1 (x1 * x2) (0 : Int32) j_in ji_f
        else
          some ((0 : Int32), j_in, ji_f)
section
variable {p : Program} {l : Launch} {e : Env} {s : State} {m : MethodId} {args : Array Value} {below : List Frame} {meth : Method} {c : Code} {A : Nat → Prop} {D : va_G} {cB cI : ClassId} {tM : Nat}
set_option maxHeartbeats 4000000 in
set_option maxRecDepth 100000 in
theorem w_Mo_again_44 {q_j q_ji q_jo q_jm q_jn q_jf : Nat} {j_out : Int32} {j_made : Int32} {j_known : Int32} {j_fat : Int32} {j_flong : Int32} {j_told : Int32} {j_at : Int32} {j_end : Int32} {j_fault : Int32} {j_fp : Int32} {jo_f : Nat → Int32} {jm_f : Nat → Int32} {jn_f : Nat → Int32} {jf_f : Nat → Int32} {N : Nat} {r : Int32} {j_in' : Int32} {ji_f' : Nat → Int32} (hF2 : tp_F p m c c_Mo_again 5 s args tpG R_Mo meth (some .boolean)) : ∀ (n : Nat), ∀ (x1 : Int32) (x3 : Int32) (x4 : Int32) (j_in : Int32) (ji_f : Nat → Int32) (H : Heap) (locs : List Loc) (ls : Array Slot), tp_it5 (m_Mo_again_44 N ) n x1 x3 x4 j_in ji_f = some (r, j_in', ji_f') → tp_Wd D (tp_ty cB cI) tM A s H locs [(q_j, .inr (7, [.ref q_ji, .int j_in, .ref q_jo, .int j_out, .ref q_jm, .int j_made, .ref q_jn, .ref q_jf, .int j_known, .int j_fat, .int j_flong, .int j_told, .int j_at, .int j_end, .int j_fault, .int j_fp])), (q_ji, .inl (cB, 10000, .inl ji_f)), (q_jo, .inl (cB, 10000, .inl jo_f)), (q_jm, .inl (cB, 20000, .inl jm_f)), (q_jn, .inl (cI, 10001, .inl jn_f)), (q_jf, .inl (cI, 10001, .inl jf_f))] → lv_has ls 5 [(0, .ref q_j), (1, .int x1), (3, .int x3), (4, .int x4)] → W p l e rm_Mo_again s m args below meth c H locs 0 0 (MQ below (tp_Qi D A r [(q_j, .inr (7, [.ref q_ji, .int j_in', .ref q_jo, .int j_out, .ref q_jm, .int j_made, .ref q_jn, .ref q_jf, .int j_known, .int j_fat, .int j_flong, .int j_told, .int j_at, .int j_end, .int j_fault, .int j_fp])), (q_ji, .inl (cB, 10000, .inl ji_f')), (q_jo, .inl (cB, 10000, .inl jo_f)), (q_jm, .inl (cB, 20000, .inl jm_f)), (q_jn, .inl (cI, 10001, .inl jn_f)), (q_jf, .inl (cI, 10001, .inl jf_f))]) args s 0 0 A) (F0 m 44 ls []) := by
  obtain ⟨hF, hr, hlocks⟩ := id hF2
  obtain ⟨hx, hb, hml, hown, hts⟩ := id hF
  intro n
  induction n with
  | zero => intro x1 x3 x4 j_in ji_f H locs ls hm; exact absurd hm (by simp [tp_it5])
  | succ n ih44 =>
    intro x1 x3 x4 j_in ji_f H locs ls hm hw hl
    replace hm : m_Mo_again_44 N  (tp_it5 (m_Mo_again_44 N ) n) x1 x3 x4 j_in ji_f = some (r, j_in', ji_f') := hm
    unfold m_Mo_again_44 at hm
    refine lv_iload hx hb d_Mo_again_44 (lv_at hl 3 rfl) ?_
    refine lv_iload_n hx hb d_Mo_again_46 rfl (lv_at hl 2 rfl) ?_
    refine lv_icmp_ge (tgt := 86) hx hb d_Mo_again_47 (by decide +kernel) (fun hc5 => ?_) (fun hc5 => ?_)
    · replace hm := tp_it hc5 hm
      refine lv_iconst (v := (1 : Int32)) hx hb d_Mo_again_86 (by decide +kernel) ?_
      obtain ⟨rfl, rfl, rfl⟩ := tp_inj3 hm
      exact tp_zret hx hb hr hlocks rfl hw d_Mo_again_87
    · replace hm := tp_if hc5 hm
      refine lv_aload_n hx hb d_Mo_again_50 rfl (lv_at hl 0 rfl) ?_
      refine tp_get (v := .ref q_ji) (C := R_Mo) (T := T_Mo) hx hb hts fw_Mo hown hw 0 rfl rfl 0 (by decide +kernel) (hts _ wd_333) rfl d_Mo_again_51 ?_
      refine lv_aload_n hx hb d_Mo_again_54 rfl (lv_at hl 0 rfl) ?_
      refine tp_get (v := .int j_in) (C := R_Mo) (T := T_Mo) hx hb hts fw_Mo hown hw 0 rfl rfl 1 (by decide +kernel) (hts _ wd_332) rfl d_Mo_again_55 ?_
      refine lv_aload_n hx hb d_Mo_again_58 rfl (lv_at hl 0 rfl) ?_
      refine tp_get (v := .ref q_ji) (C := R_Mo) (T := T_Mo) hx hb hts fw_Mo hown hw 0 rfl rfl 0 (by decide +kernel) (hts _ wd_333) rfl d_Mo_again_59 ?_
      refine lv_aload_n hx hb d_Mo_again_62 rfl (lv_at hl 0 rfl) ?_
      refine tp_get (v := .int j_in) (C := R_Mo) (T := T_Mo) hx hb hts fw_Mo hown hw 0 rfl rfl 1 (by decide +kernel) (hts _ wd_332) rfl d_Mo_again_63 ?_
      refine lv_iload_n hx hb d_Mo_again_66 rfl (lv_at hl 1 rfl) ?_
      refine lv_isub hx hb d_Mo_again_67 ?_
      obtain ⟨hi6, hm⟩ := tp_gd_e hm
      refine tp_bald hx hb hw 1 0 rfl rfl hi6 d_Mo_again_68 ?_
      obtain ⟨hi7, hm⟩ := tp_gd_e hm
      refine tp_bast (WS' := [(q_j, .inr (7, [.ref q_ji, .int j_in, .ref q_jo, .int j_out, .ref q_jm, .int j_made, .ref q_jn, .ref q_jf, .int j_known, .int j_fat, .int j_flong, .int j_told, .int j_at, .int j_end, .int j_fault, .int j_fp])), (q_ji, .inl (cB, 10000, .inl (upd ji_f (Int32.toNatClampNeg j_in) (vp_nar .byte (ji_f (Int32.toNatClampNeg (j_in - x1))))))), (q_jo, .inl (cB, 10000, .inl jo_f)), (q_jm, .inl (cB, 20000, .inl jm_f)), (q_jn, .inl (cI, 10001, .inl jn_f)), (q_jf, .inl (cI, 10001, .inl jf_f))]) hx hb hw 1 0 rfl rfl hi7 rfl d_Mo_again_69 (fun H locs hw => ?_)
      refine lv_aload_n hx hb d_Mo_again_70 rfl (lv_at hl 0 rfl) ?_
      refine lv_dup hx hb d_Mo_again_71 rfl ?_
      refine tp_get (v := .int j_in) (C := R_Mo) (T := T_Mo) hx hb hts fw_Mo hown hw 0 rfl rfl 1 (by decide +kernel) (hts _ wd_332) rfl d_Mo_again_72 ?_
      refine lv_iconst (v := (1 : Int32)) hx hb d_Mo_again_75 (by decide +kernel) ?_
      refine lv_iadd hx hb d_Mo_again_76 ?_
      refine tp_put (v := .int (j_in + (1 : Int32))) (C := R_Mo) (T := T_Mo) (WS' := [(q_j, .inr (7, [.ref q_ji, .int (j_in + (1 : Int32)), .ref q_jo, .int j_out, .ref q_jm, .int j_made, .ref q_jn, .ref q_jf, .int j_known, .int j_fat, .int j_flong, .int j_told, .int j_at, .int j_end, .int j_fault, .int j_fp])), (q_ji, .inl (cB, 10000, .inl (upd ji_f (Int32.toNatClampNeg j_in) (vp_nar .byte (ji_f (Int32.toNatClampNeg (j_in - x1))))))), (q_jo, .inl (cB, 10000, .inl jo_f)), (q_jm, .inl (cB, 20000, .inl jm_f)), (q_jn, .inl (cI, 10001, .inl jn_f)), (q_jf, .inl (cI, 10001, .inl jf_f))]) hx hb hts fw_Mo ty_Mo ty_Mo_ok nm_Mo hown hw 0 rfl rfl 1 (by decide +kernel) (hts _ wd_332) rfl rfl rfl (Nat.le_of_ble_eq_true rfl) rfl d_Mo_again_77 (fun H locs hw => ?_)
      refine lv_iinc (v := (x4 + (1 : Int32))) (lv' := [(4, .int (x4 + (1 : Int32))), (0, .ref q_j), (1, .int x1), (3, .int x3)]) hx hb d_Mo_again_80 hl (k := 3) rfl rfl (by decide +kernel) rfl (fun ls hl => ?_)
      refine lv_goto (tgt := 44) hx hb d_Mo_again_83 (by decide +kernel) ?_
      exact ih44 _ _ _ _ _ _ _ _ hm hw (lv_sub hl [1, 2, 3, 0] rfl)
set_option maxHeartbeats 4000000 in
set_option maxRecDepth 100000 in
theorem ct_Mo_again {q_j q_ji q_jo q_jm q_jn q_jf : Nat} {j_in : Int32} {j_out : Int32} {j_made : Int32} {j_known : Int32} {j_fat : Int32} {j_flong : Int32} {j_told : Int32} {j_at : Int32} {j_end : Int32} {j_fault : Int32} {j_fp : Int32} {ji_f : Nat → Int32} {jo_f : Nat → Int32} {jm_f : Nat → Int32} {jn_f : Nat → Int32} {jf_f : Nat → Int32} {N : Nat} {x1 : Int32} {x2 : Int32} {r : Int32} {j_in' : Int32} {ji_f' : Nat → Int32} (hm : m_Mo_again N x1 x2 j_in ji_f = some (r, j_in', ji_f')) (sz : Nat) : tp_Ci l y_Mo_again ws_Mo_again rm_Mo_again D (tp_ty cB cI) tM [.ref q_j, .int x1, .int x2] [(q_j, .inr (7, [.ref q_ji, .int j_in, .ref q_jo, .int j_out, .ref q_jm, .int j_made, .ref q_jn, .ref q_jf, .int j_known, .int j_fat, .int j_flong, .int j_told, .int j_at, .int j_end, .int j_fault, .int j_fp])), (q_ji, .inl (cB, 10000, .inl ji_f)), (q_jo, .inl (cB, 10000, .inl jo_f)), (q_jm, .inl (cB, 20000, .inl jm_f)), (q_jn, .inl (cI, 10001, .inl jn_f)), (q_jf, .inl (cI, 10001, .inl jf_f))] sz r [(q_j, .inr (7, [.ref q_ji, .int j_in', .ref q_jo, .int j_out, .ref q_jm, .int j_made, .ref q_jn, .ref q_jf, .int j_known, .int j_fat, .int j_flong, .int j_told, .int j_at, .int j_end, .int j_fault, .int j_fp])), (q_ji, .inl (cB, 10000, .inl ji_f')), (q_jo, .inl (cB, 10000, .inl jo_f)), (q_jm, .inl (cB, 20000, .inl jm_f)), (q_jn, .inl (cI, 10001, .inl jn_f)), (q_jf, .inl (cI, 10001, .inl jf_f))] := by
  refine Met.ofW (cc := c_Mo_again) (maxL := 5) (ret := (some .boolean)) (by decide) rfl ?_
  intro p e s m args below meth c s₁ B hml hv
  obtain ⟨rfl, hv⟩ := hv
  have hw := tp_entry hv
  generalize va_A [(q_j, .inr (7, [.ref q_ji, .int j_in, .ref q_jo, .int j_out, .ref q_jm, .int j_made, .ref q_jn, .ref q_jf, .int j_known, .int j_fat, .int j_flong, .int j_told, .int j_at, .int j_end, .int j_fault, .int j_fp])), (q_ji, .inl (cB, 10000, .inl ji_f)), (q_jo, .inl (cB, 10000, .inl jo_f)), (q_jm, .inl (cB, 20000, .inl jm_f)), (q_jn, .inl (cI, 10001, .inl jn_f)), (q_jf, .inl (cI, 10001, .inl jf_f))] sz = A at hw ⊢
  have hx := B.exec
  have hb := B.bytes
  have hr := B.returns
  have hts0 := atoms_spec (ws := ws_Mo_again) B.pre
  have hts := fun w h => hts0 w (List.mem_cons_of_mem _ h)
  have hown : s.vm.findClass R_Mo = some m.cls := findClass_of_methodNamed B.named
  have hlocks := B.notSynchronized
  have hF : CallFix p m c c_Mo_again 5 s _ tpG R_Mo := ⟨hx, hb, hml, hown, hts⟩
  have hF2 : tp_F p m c c_Mo_again 5 s _ tpG R_Mo meth (some .boolean) := ⟨hF, hr, hlocks⟩
  have hl := lv_entry ([.ref q_j, .int x1, .int x2]) (n := 5) (Nat.le_of_ble_eq_true rfl)
  rw [lg_entry_eq]
  generalize (lg_sl ([.ref q_j, .int x1, .int x2]) ++ List.replicate (5 - (lg_sl ([.ref q_j, .int x1, .int x2])).length) Slot.unset).toArray = ls at hl ⊢
  replace hl : lv_has ls 5 [(0, .ref q_j), (1, .int x1), (2, .int x2)] := hl
  unfold m_Mo_again at hm
  refine lv_iload_n hx hb d_Mo_again_0 rfl (lv_at hl 1 rfl) ?_
  refine lv_iconst (v := (1 : Int32)) hx hb d_Mo_again_1 (by decide +kernel) ?_
  refine lv_icmp_lt (tgt := 35) hx hb d_Mo_again_2 (by decide +kernel) (fun hc1 => ?_) (fun hc1 => ?_)
  · replace hm := tp_it hc1 hm
    refine lv_iconst (v := (0 : Int32)) hx hb d_Mo_again_35 (by decide +kernel) ?_
    obtain ⟨rfl, rfl, rfl⟩ := tp_inj3 hm
    exact tp_zret hx hb hr hlocks rfl hw d_Mo_again_36
  · replace hm := tp_if hc1 hm
    refine lv_iload_n hx hb d_Mo_again_5 rfl (lv_at hl 1 rfl) ?_
    refine lv_aload_n hx hb d_Mo_again_6 rfl (lv_at hl 0 rfl) ?_
    refine tp_get (v := .int j_in) (C := R_Mo) (T := T_Mo) hx hb hts fw_Mo hown hw 0 rfl rfl 1 (by decide +kernel) (hts _ wd_332) rfl d_Mo_again_7 ?_
    refine lv_icmp_gt (tgt := 35) hx hb d_Mo_again_10 (by decide +kernel) (fun hc2 => ?_) (fun hc2 => ?_)
    · replace hm := tp_it hc2 hm
      refine lv_iconst (v := (0 : Int32)) hx hb d_Mo_again_35 (by decide +kernel) ?_
      obtain ⟨rfl, rfl, rfl⟩ := tp_inj3 hm
      exact tp_zret hx hb hr hlocks rfl hw d_Mo_again_36
    · replace hm := tp_if hc2 hm
      refine lv_iload_n hx hb d_Mo_again_13 rfl (lv_at hl 2 rfl) ?_
      refine lv_if_lt (tgt := 35) hx hb d_Mo_again_14 (by decide +kernel) (fun hc3 => ?_) (fun hc3 => ?_)
      · replace hm := tp_it hc3 hm
        refine lv_iconst (v := (0 : Int32)) hx hb d_Mo_again_35 (by decide +kernel) ?_
        obtain ⟨rfl, rfl, rfl⟩ := tp_inj3 hm
        exact tp_zret hx hb hr hlocks rfl hw d_Mo_again_36
      · replace hm := tp_if hc3 hm
        refine lv_aload_n hx hb d_Mo_again_17 rfl (lv_at hl 0 rfl) ?_
        refine tp_get (v := .int j_in) (C := R_Mo) (T := T_Mo) hx hb hts fw_Mo hown hw 0 rfl rfl 1 (by decide +kernel) (hts _ wd_332) rfl d_Mo_again_18 ?_
        refine lv_i2l (v := (Int32.toInt64 j_in)) hx hb d_Mo_again_21 rfl ?_
        refine lv_iload_n hx hb d_Mo_again_22 rfl (lv_at hl 1 rfl) ?_
        refine lv_i2l (v := (Int32.toInt64 x1)) hx hb d_Mo_again_23 rfl ?_
        refine lv_iload_n hx hb d_Mo_again_24 rfl (lv_at hl 2 rfl) ?_
        refine lv_i2l (v := (Int32.toInt64 x2)) hx hb d_Mo_again_25 rfl ?_
        refine lv_lmul hx hb d_Mo_again_26 ?_
        refine lv_ladd hx hb d_Mo_again_27 ?_
        refine lv_ldc2 (v := (10000 : Int64)) hx hb hown (hts _ wd_334) d_Mo_again_28 ?_
        refine W.lcmp hx hb d_Mo_again_31 ?_
        refine lv_if_le (tgt := 37) hx hb d_Mo_again_32 (by decide +kernel) (fun hc4 => ?_) (fun hc4 => ?_)
        · replace hm := tp_it hc4 hm
          refine lv_iload_n hx hb d_Mo_again_37 rfl (lv_at hl 1 rfl) ?_
          refine lv_iload_n hx hb d_Mo_again_38 rfl (lv_at hl 2 rfl) ?_
          refine lv_imul hx hb d_Mo_again_39 ?_
          refine lv_istore_n (lv' := [(3, .int (x1 * x2)), (0, .ref q_j), (1, .int x1), (2, .int x2)]) hx hb d_Mo_again_40 rfl hl (by decide +kernel) rfl (fun ls hl => ?_)
          refine lv_iconst (v := (0 : Int32)) hx hb d_Mo_again_41 (by decide +kernel) ?_
          refine lv_istore (lv' := [(4, .int (0 : Int32)), (3, .int (x1 * x2)), (0, .ref q_j), (1, .int x1), (2, .int x2)]) hx hb d_Mo_again_42 hl (by decide +kernel) rfl (fun ls hl => ?_)
          exact w_Mo_again_44 hF2  N _ _ _ _ _ _ _ _ hm hw (lv_sub hl [2, 3, 1, 0] rfl)
        · replace hm := tp_if hc4 hm
          refine lv_iconst (v := (0 : Int32)) hx hb d_Mo_again_35 (by decide +kernel) ?_
          obtain ⟨rfl, rfl, rfl⟩ := tp_inj3 hm
          exact tp_zret hx hb hr hlocks rfl hw d_Mo_again_36
end
abbrev rm_Mo_clear : Room := { frames := 0, cells := 0, slots := 0, locals := 0 }
abbrev ws_Mo_clear : List Cond := .code y_Mo_clear c_Mo_clear 1 none :: tpG
noncomputable def m_Mo_clear (j_in : Int32) : Option (Int32) :=
  some ((0 : Int32))
section
variable {p : Program} {l : Launch} {e : Env} {s : State} {m : MethodId} {args : Array Value} {below : List Frame} {meth : Method} {c : Code} {A : Nat → Prop} {D : va_G} {cB cI : ClassId} {tM : Nat}
set_option maxHeartbeats 4000000 in
set_option maxRecDepth 100000 in
theorem ct_Mo_clear {q_j q_ji q_jo q_jm q_jn q_jf : Nat} {j_in : Int32} {j_out : Int32} {j_made : Int32} {j_known : Int32} {j_fat : Int32} {j_flong : Int32} {j_told : Int32} {j_at : Int32} {j_end : Int32} {j_fault : Int32} {j_fp : Int32} {ji_f : Nat → Int32} {jo_f : Nat → Int32} {jm_f : Nat → Int32} {jn_f : Nat → Int32} {jf_f : Nat → Int32} {j_in' : Int32} (hm : m_Mo_clear j_in = some (j_in')) (sz : Nat) : tp_Cv l y_Mo_clear ws_Mo_clear rm_Mo_clear D (tp_ty cB cI) tM [.ref q_j] [(q_j, .inr (7, [.ref q_ji, .int j_in, .ref q_jo, .int j_out, .ref q_jm, .int j_made, .ref q_jn, .ref q_jf, .int j_known, .int j_fat, .int j_flong, .int j_told, .int j_at, .int j_end, .int j_fault, .int j_fp])), (q_ji, .inl (cB, 10000, .inl ji_f)), (q_jo, .inl (cB, 10000, .inl jo_f)), (q_jm, .inl (cB, 20000, .inl jm_f)), (q_jn, .inl (cI, 10001, .inl jn_f)), (q_jf, .inl (cI, 10001, .inl jf_f))] sz [(q_j, .inr (7, [.ref q_ji, .int j_in', .ref q_jo, .int j_out, .ref q_jm, .int j_made, .ref q_jn, .ref q_jf, .int j_known, .int j_fat, .int j_flong, .int j_told, .int j_at, .int j_end, .int j_fault, .int j_fp])), (q_ji, .inl (cB, 10000, .inl ji_f)), (q_jo, .inl (cB, 10000, .inl jo_f)), (q_jm, .inl (cB, 20000, .inl jm_f)), (q_jn, .inl (cI, 10001, .inl jn_f)), (q_jf, .inl (cI, 10001, .inl jf_f))] := by
  refine Met.ofW (cc := c_Mo_clear) (maxL := 1) (ret := none) (by decide) rfl ?_
  intro p e s m args below meth c s₁ B hml hv
  obtain ⟨rfl, hv⟩ := hv
  have hw := tp_entry hv
  generalize va_A [(q_j, .inr (7, [.ref q_ji, .int j_in, .ref q_jo, .int j_out, .ref q_jm, .int j_made, .ref q_jn, .ref q_jf, .int j_known, .int j_fat, .int j_flong, .int j_told, .int j_at, .int j_end, .int j_fault, .int j_fp])), (q_ji, .inl (cB, 10000, .inl ji_f)), (q_jo, .inl (cB, 10000, .inl jo_f)), (q_jm, .inl (cB, 20000, .inl jm_f)), (q_jn, .inl (cI, 10001, .inl jn_f)), (q_jf, .inl (cI, 10001, .inl jf_f))] sz = A at hw ⊢
  have hx := B.exec
  have hb := B.bytes
  have hr := B.returns
  have hts0 := atoms_spec (ws := ws_Mo_clear) B.pre
  have hts := fun w h => hts0 w (List.mem_cons_of_mem _ h)
  have hown : s.vm.findClass R_Mo = some m.cls := findClass_of_methodNamed B.named
  have hlocks := B.notSynchronized
  have hF : CallFix p m c c_Mo_clear 1 s _ tpG R_Mo := ⟨hx, hb, hml, hown, hts⟩
  have hF2 : tp_F p m c c_Mo_clear 1 s _ tpG R_Mo meth none := ⟨hF, hr, hlocks⟩
  have hl := lv_entry ([.ref q_j]) (n := 1) (Nat.le_of_ble_eq_true rfl)
  rw [lg_entry_eq]
  generalize (lg_sl ([.ref q_j]) ++ List.replicate (1 - (lg_sl ([.ref q_j])).length) Slot.unset).toArray = ls at hl ⊢
  replace hl : lv_has ls 1 [(0, .ref q_j)] := hl
  unfold m_Mo_clear at hm
  refine lv_aload_n hx hb d_Mo_clear_0 rfl (lv_at hl 0 rfl) ?_
  refine lv_iconst (v := (0 : Int32)) hx hb d_Mo_clear_1 (by decide +kernel) ?_
  refine tp_put (v := .int (0 : Int32)) (C := R_Mo) (T := T_Mo) (WS' := [(q_j, .inr (7, [.ref q_ji, .int (0 : Int32), .ref q_jo, .int j_out, .ref q_jm, .int j_made, .ref q_jn, .ref q_jf, .int j_known, .int j_fat, .int j_flong, .int j_told, .int j_at, .int j_end, .int j_fault, .int j_fp])), (q_ji, .inl (cB, 10000, .inl ji_f)), (q_jo, .inl (cB, 10000, .inl jo_f)), (q_jm, .inl (cB, 20000, .inl jm_f)), (q_jn, .inl (cI, 10001, .inl jn_f)), (q_jf, .inl (cI, 10001, .inl jf_f))]) hx hb hts fw_Mo ty_Mo ty_Mo_ok nm_Mo hown hw 0 rfl rfl 1 (by decide +kernel) (hts _ wd_332) rfl rfl rfl (Nat.le_of_ble_eq_true rfl) rfl d_Mo_clear_2 (fun H locs hw => ?_)
  obtain rfl := tp_inj1 hm
  exact tp_vret () hx hb hr hlocks hw d_Mo_clear_5
end
abbrev rm_Mo_turn : Room := { frames := 0, cells := 0, slots := 0, locals := 0 }
abbrev ws_Mo_turn : List Cond := .code y_Mo_turn c_Mo_turn 2 none :: tpG
noncomputable def m_Mo_turn_2 (N : Nat) (j_out : Int32) (jo_f : Nat → Int32) (rec2 : Int32 → Int32 → (Nat → Int32) → Option (Int32 × (Nat → Int32))) (x1 : Int32) (j_in : Int32) (ji_f : Nat → Int32) : Option (Int32 × (Nat → Int32)) :=
  if j_out ≤ x1 then
    some (j_out, ji_f)
  else
    tp_gd (tp_inb x1 10000) <|
    tp_gd (tp_inb x1 10000) <|
    rec2 (x1 + (1 : Int32)) j_in (upd ji_f (Int32.toNatClampNeg x1) (vp_nar .byte (jo_f (Int32.toNatClampNeg x1))))
noncomputable def m_Mo_turn (N : Nat) (j_in : Int32) (j_out : Int32) (ji_f : Nat → Int32) (jo_f : Nat → Int32) : Option (Int32 × (Nat → Int32)) :=
  tp_it3 (m_Mo_turn_2 N j_out jo_f ) N (0 : Int32) j_in ji_f
section
variable {p : Program} {l : Launch} {e : Env} {s : State} {m : MethodId} {args : Array Value} {below : List Frame} {meth : Method} {c : Code} {A : Nat → Prop} {D : va_G} {cB cI : ClassId} {tM : Nat}
set_option maxHeartbeats 4000000 in
set_option maxRecDepth 100000 in
theorem w_Mo_turn_2 {q_j q_ji q_jo q_jm q_jn q_jf : Nat} {j_out : Int32} {j_made : Int32} {j_known : Int32} {j_fat : Int32} {j_flong : Int32} {j_told : Int32} {j_at : Int32} {j_end : Int32} {j_fault : Int32} {j_fp : Int32} {jo_f : Nat → Int32} {jm_f : Nat → Int32} {jn_f : Nat → Int32} {jf_f : Nat → Int32} {N : Nat} {j_in' : Int32} {ji_f' : Nat → Int32} (hF2 : tp_F p m c c_Mo_turn 2 s args tpG R_Mo meth none) : ∀ (n : Nat), ∀ (x1 : Int32) (j_in : Int32) (ji_f : Nat → Int32) (H : Heap) (locs : List Loc) (ls : Array Slot), tp_it3 (m_Mo_turn_2 N j_out jo_f ) n x1 j_in ji_f = some (j_in', ji_f') → tp_Wd D (tp_ty cB cI) tM A s H locs [(q_j, .inr (7, [.ref q_ji, .int j_in, .ref q_jo, .int j_out, .ref q_jm, .int j_made, .ref q_jn, .ref q_jf, .int j_known, .int j_fat, .int j_flong, .int j_told, .int j_at, .int j_end, .int j_fault, .int j_fp])), (q_ji, .inl (cB, 10000, .inl ji_f)), (q_jo, .inl (cB, 10000, .inl jo_f)), (q_jm, .inl (cB, 20000, .inl jm_f)), (q_jn, .inl (cI, 10001, .inl jn_f)), (q_jf, .inl (cI, 10001, .inl jf_f))] → lv_has ls 2 [(0, .ref q_j), (1, .int x1)] → W p l e rm_Mo_turn s m args below meth c H locs 0 0 (MQ below (tp_Qv (S := Unit) D A (fun _ => [(q_j, .inr (7, [.ref q_ji, .int j_in', .ref q_jo, .int j_out, .ref q_jm, .int j_made, .ref q_jn, .ref q_jf, .int j_known, .int j_fat, .int j_flong, .int j_told, .int j_at, .int j_end, .int j_fault, .int j_fp])), (q_ji, .inl (cB, 10000, .inl ji_f')), (q_jo, .inl (cB, 10000, .inl jo_f)), (q_jm, .inl (cB, 20000, .inl jm_f)), (q_jn, .inl (cI, 10001, .inl jn_f)), (q_jf, .inl (cI, 10001, .inl jf_f))])) args s 0 0 A) (F0 m 2 ls []) := by
  obtain ⟨hF, hr, hlocks⟩ := id hF2
  obtain ⟨hx, hb, hml, hown, hts⟩ := id hF
  intro n
  induction n with
  | zero => intro x1 j_in ji_f H locs ls hm; exact absurd hm (by simp [tp_it3])
  | succ n ih2 =>
    intro x1 j_in ji_f H locs ls hm hw hl
    replace hm : m_Mo_turn_2 N j_out jo_f  (tp_it3 (m_Mo_turn_2 N j_out jo_f ) n) x1 j_in ji_f = some (j_in', ji_f') := hm
    unfold m_Mo_turn_2 at hm
    refine lv_iload_n hx hb d_Mo_turn_2 rfl (lv_at hl 1 rfl) ?_
    refine lv_aload_n hx hb d_Mo_turn_3 rfl (lv_at hl 0 rfl) ?_
    refine tp_get (v := .int j_out) (C := R_Mo) (T := T_Mo) hx hb hts fw_Mo hown hw 0 rfl rfl 3 (by decide +kernel) (hts _ wd_335) rfl d_Mo_turn_4 ?_
    refine lv_icmp_ge (tgt := 28) hx hb d_Mo_turn_7 (by decide +kernel) (fun hc1 => ?_) (fun hc1 => ?_)
    · replace hm := tp_it hc1 hm
      refine lv_aload_n hx hb d_Mo_turn_28 rfl (lv_at hl 0 rfl) ?_
      refine lv_aload_n hx hb d_Mo_turn_29 rfl (lv_at hl 0 rfl) ?_
      refine tp_get (v := .int j_out) (C := R_Mo) (T := T_Mo) hx hb hts fw_Mo hown hw 0 rfl rfl 3 (by decide +kernel) (hts _ wd_335) rfl d_Mo_turn_30 ?_
      refine tp_put (v := .int j_out) (C := R_Mo) (T := T_Mo) (WS' := [(q_j, .inr (7, [.ref q_ji, .int j_out, .ref q_jo, .int j_out, .ref q_jm, .int j_made, .ref q_jn, .ref q_jf, .int j_known, .int j_fat, .int j_flong, .int j_told, .int j_at, .int j_end, .int j_fault, .int j_fp])), (q_ji, .inl (cB, 10000, .inl ji_f)), (q_jo, .inl (cB, 10000, .inl jo_f)), (q_jm, .inl (cB, 20000, .inl jm_f)), (q_jn, .inl (cI, 10001, .inl jn_f)), (q_jf, .inl (cI, 10001, .inl jf_f))]) hx hb hts fw_Mo ty_Mo ty_Mo_ok nm_Mo hown hw 0 rfl rfl 1 (by decide +kernel) (hts _ wd_332) rfl rfl rfl (Nat.le_of_ble_eq_true rfl) rfl d_Mo_turn_33 (fun H locs hw => ?_)
      obtain ⟨rfl, rfl⟩ := tp_inj2 hm
      exact tp_vret () hx hb hr hlocks hw d_Mo_turn_36
    · replace hm := tp_if hc1 hm
      refine lv_aload_n hx hb d_Mo_turn_10 rfl (lv_at hl 0 rfl) ?_
      refine tp_get (v := .ref q_ji) (C := R_Mo) (T := T_Mo) hx hb hts fw_Mo hown hw 0 rfl rfl 0 (by decide +kernel) (hts _ wd_333) rfl d_Mo_turn_11 ?_
      refine lv_iload_n hx hb d_Mo_turn_14 rfl (lv_at hl 1 rfl) ?_
      refine lv_aload_n hx hb d_Mo_turn_15 rfl (lv_at hl 0 rfl) ?_
      refine tp_get (v := .ref q_jo) (C := R_Mo) (T := T_Mo) hx hb hts fw_Mo hown hw 0 rfl rfl 2 (by decide +kernel) (hts _ wd_336) rfl d_Mo_turn_16 ?_
      refine lv_iload_n hx hb d_Mo_turn_19 rfl (lv_at hl 1 rfl) ?_
      obtain ⟨hi2, hm⟩ := tp_gd_e hm
      refine tp_bald hx hb hw 2 0 rfl rfl hi2 d_Mo_turn_20 ?_
      obtain ⟨hi3, hm⟩ := tp_gd_e hm
      refine tp_bast (WS' := [(q_j, .inr (7, [.ref q_ji, .int j_in, .ref q_jo, .int j_out, .ref q_jm, .int j_made, .ref q_jn, .ref q_jf, .int j_known, .int j_fat, .int j_flong, .int j_told, .int j_at, .int j_end, .int j_fault, .int j_fp])), (q_ji, .inl (cB, 10000, .inl (upd ji_f (Int32.toNatClampNeg x1) (vp_nar .byte (jo_f (Int32.toNatClampNeg x1)))))), (q_jo, .inl (cB, 10000, .inl jo_f)), (q_jm, .inl (cB, 20000, .inl jm_f)), (q_jn, .inl (cI, 10001, .inl jn_f)), (q_jf, .inl (cI, 10001, .inl jf_f))]) hx hb hw 1 0 rfl rfl hi3 rfl d_Mo_turn_21 (fun H locs hw => ?_)
      refine lv_iinc (v := (x1 + (1 : Int32))) (lv' := [(1, .int (x1 + (1 : Int32))), (0, .ref q_j)]) hx hb d_Mo_turn_22 hl (k := 1) rfl rfl (by decide +kernel) rfl (fun ls hl => ?_)
      refine lv_goto (tgt := 2) hx hb d_Mo_turn_25 (by decide +kernel) ?_
      exact ih2 _ _ _ _ _ _ hm hw (lv_sub hl [1, 0] rfl)
set_option maxHeartbeats 4000000 in
set_option maxRecDepth 100000 in
theorem ct_Mo_turn {q_j q_ji q_jo q_jm q_jn q_jf : Nat} {j_in : Int32} {j_out : Int32} {j_made : Int32} {j_known : Int32} {j_fat : Int32} {j_flong : Int32} {j_told : Int32} {j_at : Int32} {j_end : Int32} {j_fault : Int32} {j_fp : Int32} {ji_f : Nat → Int32} {jo_f : Nat → Int32} {jm_f : Nat → Int32} {jn_f : Nat → Int32} {jf_f : Nat → Int32} {N : Nat} {j_in' : Int32} {ji_f' : Nat → Int32} (hm : m_Mo_turn N j_in j_out ji_f jo_f = some (j_in', ji_f')) (sz : Nat) : tp_Cv l y_Mo_turn ws_Mo_turn rm_Mo_turn D (tp_ty cB cI) tM [.ref q_j] [(q_j, .inr (7, [.ref q_ji, .int j_in, .ref q_jo, .int j_out, .ref q_jm, .int j_made, .ref q_jn, .ref q_jf, .int j_known, .int j_fat, .int j_flong, .int j_told, .int j_at, .int j_end, .int j_fault, .int j_fp])), (q_ji, .inl (cB, 10000, .inl ji_f)), (q_jo, .inl (cB, 10000, .inl jo_f)), (q_jm, .inl (cB, 20000, .inl jm_f)), (q_jn, .inl (cI, 10001, .inl jn_f)), (q_jf, .inl (cI, 10001, .inl jf_f))] sz [(q_j, .inr (7, [.ref q_ji, .int j_in', .ref q_jo, .int j_out, .ref q_jm, .int j_made, .ref q_jn, .ref q_jf, .int j_known, .int j_fat, .int j_flong, .int j_told, .int j_at, .int j_end, .int j_fault, .int j_fp])), (q_ji, .inl (cB, 10000, .inl ji_f')), (q_jo, .inl (cB, 10000, .inl jo_f)), (q_jm, .inl (cB, 20000, .inl jm_f)), (q_jn, .inl (cI, 10001, .inl jn_f)), (q_jf, .inl (cI, 10001, .inl jf_f))] := by
  refine Met.ofW (cc := c_Mo_turn) (maxL := 2) (ret := none) (by decide) rfl ?_
  intro p e s m args below meth c s₁ B hml hv
  obtain ⟨rfl, hv⟩ := hv
  have hw := tp_entry hv
  generalize va_A [(q_j, .inr (7, [.ref q_ji, .int j_in, .ref q_jo, .int j_out, .ref q_jm, .int j_made, .ref q_jn, .ref q_jf, .int j_known, .int j_fat, .int j_flong, .int j_told, .int j_at, .int j_end, .int j_fault, .int j_fp])), (q_ji, .inl (cB, 10000, .inl ji_f)), (q_jo, .inl (cB, 10000, .inl jo_f)), (q_jm, .inl (cB, 20000, .inl jm_f)), (q_jn, .inl (cI, 10001, .inl jn_f)), (q_jf, .inl (cI, 10001, .inl jf_f))] sz = A at hw ⊢
  have hx := B.exec
  have hb := B.bytes
  have hr := B.returns
  have hts0 := atoms_spec (ws := ws_Mo_turn) B.pre
  have hts := fun w h => hts0 w (List.mem_cons_of_mem _ h)
  have hown : s.vm.findClass R_Mo = some m.cls := findClass_of_methodNamed B.named
  have hlocks := B.notSynchronized
  have hF : CallFix p m c c_Mo_turn 2 s _ tpG R_Mo := ⟨hx, hb, hml, hown, hts⟩
  have hF2 : tp_F p m c c_Mo_turn 2 s _ tpG R_Mo meth none := ⟨hF, hr, hlocks⟩
  have hl := lv_entry ([.ref q_j]) (n := 2) (Nat.le_of_ble_eq_true rfl)
  rw [lg_entry_eq]
  generalize (lg_sl ([.ref q_j]) ++ List.replicate (2 - (lg_sl ([.ref q_j])).length) Slot.unset).toArray = ls at hl ⊢
  replace hl : lv_has ls 2 [(0, .ref q_j)] := hl
  unfold m_Mo_turn at hm
  refine lv_iconst (v := (0 : Int32)) hx hb d_Mo_turn_0 (by decide +kernel) ?_
  refine lv_istore_n (lv' := [(1, .int (0 : Int32)), (0, .ref q_j)]) hx hb d_Mo_turn_1 rfl hl (by decide +kernel) rfl (fun ls hl => ?_)
  exact w_Mo_turn_2 hF2  N _ _ _ _ _ _ hm hw (lv_sub hl [1, 0] rfl)
end
abbrev rm_Mo_put : Room := { frames := 0, cells := 0, slots := 0, locals := 0 }
abbrev ws_Mo_put : List Cond := .code y_Mo_put c_Mo_put 2 none :: tpG
noncomputable def m_Mo_put (x1 : Int32) (j_made : Int32) (jm_f : Nat → Int32) : Option (Int32 × (Nat → Int32)) :=
  if (20000 : Int32) ≤ j_made then
    some ((j_made + (1 : Int32)), jm_f)
  else
    tp_gd (tp_inb j_made 20000) <|
    some ((j_made + (1 : Int32)), upd jm_f (Int32.toNatClampNeg j_made) (vp_nar .byte (Int8.toInt32 (Int32.toInt8 x1))))
section
variable {p : Program} {l : Launch} {e : Env} {s : State} {m : MethodId} {args : Array Value} {below : List Frame} {meth : Method} {c : Code} {A : Nat → Prop} {D : va_G} {cB cI : ClassId} {tM : Nat}
set_option maxHeartbeats 4000000 in
set_option maxRecDepth 100000 in
theorem ct_Mo_put {q_j q_ji q_jo q_jm q_jn q_jf : Nat} {j_in : Int32} {j_out : Int32} {j_made : Int32} {j_known : Int32} {j_fat : Int32} {j_flong : Int32} {j_told : Int32} {j_at : Int32} {j_end : Int32} {j_fault : Int32} {j_fp : Int32} {ji_f : Nat → Int32} {jo_f : Nat → Int32} {jm_f : Nat → Int32} {jn_f : Nat → Int32} {jf_f : Nat → Int32} {x1 : Int32} {j_made' : Int32} {jm_f' : Nat → Int32} (hm : m_Mo_put x1 j_made jm_f = some (j_made', jm_f')) (sz : Nat) : tp_Cv l y_Mo_put ws_Mo_put rm_Mo_put D (tp_ty cB cI) tM [.ref q_j, .int x1] [(q_j, .inr (7, [.ref q_ji, .int j_in, .ref q_jo, .int j_out, .ref q_jm, .int j_made, .ref q_jn, .ref q_jf, .int j_known, .int j_fat, .int j_flong, .int j_told, .int j_at, .int j_end, .int j_fault, .int j_fp])), (q_ji, .inl (cB, 10000, .inl ji_f)), (q_jo, .inl (cB, 10000, .inl jo_f)), (q_jm, .inl (cB, 20000, .inl jm_f)), (q_jn, .inl (cI, 10001, .inl jn_f)), (q_jf, .inl (cI, 10001, .inl jf_f))] sz [(q_j, .inr (7, [.ref q_ji, .int j_in, .ref q_jo, .int j_out, .ref q_jm, .int j_made', .ref q_jn, .ref q_jf, .int j_known, .int j_fat, .int j_flong, .int j_told, .int j_at, .int j_end, .int j_fault, .int j_fp])), (q_ji, .inl (cB, 10000, .inl ji_f)), (q_jo, .inl (cB, 10000, .inl jo_f)), (q_jm, .inl (cB, 20000, .inl jm_f')), (q_jn, .inl (cI, 10001, .inl jn_f)), (q_jf, .inl (cI, 10001, .inl jf_f))] := by
  refine Met.ofW (cc := c_Mo_put) (maxL := 2) (ret := none) (by decide) rfl ?_
  intro p e s m args below meth c s₁ B hml hv
  obtain ⟨rfl, hv⟩ := hv
  have hw := tp_entry hv
  generalize va_A [(q_j, .inr (7, [.ref q_ji, .int j_in, .ref q_jo, .int j_out, .ref q_jm, .int j_made, .ref q_jn, .ref q_jf, .int j_known, .int j_fat, .int j_flong, .int j_told, .int j_at, .int j_end, .int j_fault, .int j_fp])), (q_ji, .inl (cB, 10000, .inl ji_f)), (q_jo, .inl (cB, 10000, .inl jo_f)), (q_jm, .inl (cB, 20000, .inl jm_f)), (q_jn, .inl (cI, 10001, .inl jn_f)), (q_jf, .inl (cI, 10001, .inl jf_f))] sz = A at hw ⊢
  have hx := B.exec
  have hb := B.bytes
  have hr := B.returns
  have hts0 := atoms_spec (ws := ws_Mo_put) B.pre
  have hts := fun w h => hts0 w (List.mem_cons_of_mem _ h)
  have hown : s.vm.findClass R_Mo = some m.cls := findClass_of_methodNamed B.named
  have hlocks := B.notSynchronized
  have hF : CallFix p m c c_Mo_put 2 s _ tpG R_Mo := ⟨hx, hb, hml, hown, hts⟩
  have hF2 : tp_F p m c c_Mo_put 2 s _ tpG R_Mo meth none := ⟨hF, hr, hlocks⟩
  have hl := lv_entry ([.ref q_j, .int x1]) (n := 2) (Nat.le_of_ble_eq_true rfl)
  rw [lg_entry_eq]
  generalize (lg_sl ([.ref q_j, .int x1]) ++ List.replicate (2 - (lg_sl ([.ref q_j, .int x1])).length) Slot.unset).toArray = ls at hl ⊢
  replace hl : lv_has ls 2 [(0, .ref q_j), (1, .int x1)] := hl
  unfold m_Mo_put at hm
  refine lv_aload_n hx hb d_Mo_put_0 rfl (lv_at hl 0 rfl) ?_
  refine tp_get (v := .int j_made) (C := R_Mo) (T := T_Mo) hx hb hts fw_Mo hown hw 0 rfl rfl 5 (by decide +kernel) (hts _ wd_337) rfl d_Mo_put_1 ?_
  refine lv_sipush (v := (20000 : Int32)) hx hb d_Mo_put_4 (by decide +kernel) ?_
  refine lv_icmp_ge (tgt := 21) hx hb d_Mo_put_7 (by decide +kernel) (fun hc1 => ?_) (fun hc1 => ?_)
  · replace hm := tp_it hc1 hm
    refine lv_aload_n hx hb d_Mo_put_21 rfl (lv_at hl 0 rfl) ?_
    refine lv_dup hx hb d_Mo_put_22 rfl ?_
    refine tp_get (v := .int j_made) (C := R_Mo) (T := T_Mo) hx hb hts fw_Mo hown hw 0 rfl rfl 5 (by decide +kernel) (hts _ wd_337) rfl d_Mo_put_23 ?_
    refine lv_iconst (v := (1 : Int32)) hx hb d_Mo_put_26 (by decide +kernel) ?_
    refine lv_iadd hx hb d_Mo_put_27 ?_
    refine tp_put (v := .int (j_made + (1 : Int32))) (C := R_Mo) (T := T_Mo) (WS' := [(q_j, .inr (7, [.ref q_ji, .int j_in, .ref q_jo, .int j_out, .ref q_jm, .int (j_made + (1 : Int32)), .ref q_jn, .ref q_jf, .int j_known, .int j_fat, .int j_flong, .int j_told, .int j_at, .int j_end, .int j_fault, .int j_fp])), (q_ji, .inl (cB, 10000, .inl ji_f)), (q_jo, .inl (cB, 10000, .inl jo_f)), (q_jm, .inl (cB, 20000, .inl jm_f)), (q_jn, .inl (cI, 10001, .inl jn_f)), (q_jf, .inl (cI, 10001, .inl jf_f))]) hx hb hts fw_Mo ty_Mo ty_Mo_ok nm_Mo hown hw 0 rfl rfl 5 (by decide +kernel) (hts _ wd_337) rfl rfl rfl (Nat.le_of_ble_eq_true rfl) rfl d_Mo_put_28 (fun H locs hw => ?_)
    obtain ⟨rfl, rfl⟩ := tp_inj2 hm
    exact tp_vret () hx hb hr hlocks hw d_Mo_put_31
  · replace hm := tp_if hc1 hm
    refine lv_aload_n hx hb d_Mo_put_10 rfl (lv_at hl 0 rfl) ?_
    refine tp_get (v := .ref q_jm) (C := R_Mo) (T := T_Mo) hx hb hts fw_Mo hown hw 0 rfl rfl 4 (by decide +kernel) (hts _ wd_338) rfl d_Mo_put_11 ?_
    refine lv_aload_n hx hb d_Mo_put_14 rfl (lv_at hl 0 rfl) ?_
    refine tp_get (v := .int j_made) (C := R_Mo) (T := T_Mo) hx hb hts fw_Mo hown hw 0 rfl rfl 5 (by decide +kernel) (hts _ wd_337) rfl d_Mo_put_15 ?_
    refine lv_iload_n hx hb d_Mo_put_18 rfl (lv_at hl 1 rfl) ?_
    refine lv_i2b (v := (Int8.toInt32 (Int32.toInt8 x1))) hx hb d_Mo_put_19 rfl ?_
    obtain ⟨hi2, hm⟩ := tp_gd_e hm
    refine tp_bast (WS' := [(q_j, .inr (7, [.ref q_ji, .int j_in, .ref q_jo, .int j_out, .ref q_jm, .int j_made, .ref q_jn, .ref q_jf, .int j_known, .int j_fat, .int j_flong, .int j_told, .int j_at, .int j_end, .int j_fault, .int j_fp])), (q_ji, .inl (cB, 10000, .inl ji_f)), (q_jo, .inl (cB, 10000, .inl jo_f)), (q_jm, .inl (cB, 20000, .inl (upd jm_f (Int32.toNatClampNeg j_made) (vp_nar .byte (Int8.toInt32 (Int32.toInt8 x1)))))), (q_jn, .inl (cI, 10001, .inl jn_f)), (q_jf, .inl (cI, 10001, .inl jf_f))]) hx hb hw 3 0 rfl rfl hi2 rfl d_Mo_put_20 (fun H locs hw => ?_)
    refine lv_aload_n hx hb d_Mo_put_21 rfl (lv_at hl 0 rfl) ?_
    refine lv_dup hx hb d_Mo_put_22 rfl ?_
    refine tp_get (v := .int j_made) (C := R_Mo) (T := T_Mo) hx hb hts fw_Mo hown hw 0 rfl rfl 5 (by decide +kernel) (hts _ wd_337) rfl d_Mo_put_23 ?_
    refine lv_iconst (v := (1 : Int32)) hx hb d_Mo_put_26 (by decide +kernel) ?_
    refine lv_iadd hx hb d_Mo_put_27 ?_
    refine tp_put (v := .int (j_made + (1 : Int32))) (C := R_Mo) (T := T_Mo) (WS' := [(q_j, .inr (7, [.ref q_ji, .int j_in, .ref q_jo, .int j_out, .ref q_jm, .int (j_made + (1 : Int32)), .ref q_jn, .ref q_jf, .int j_known, .int j_fat, .int j_flong, .int j_told, .int j_at, .int j_end, .int j_fault, .int j_fp])), (q_ji, .inl (cB, 10000, .inl ji_f)), (q_jo, .inl (cB, 10000, .inl jo_f)), (q_jm, .inl (cB, 20000, .inl (upd jm_f (Int32.toNatClampNeg j_made) (vp_nar .byte (Int8.toInt32 (Int32.toInt8 x1)))))), (q_jn, .inl (cI, 10001, .inl jn_f)), (q_jf, .inl (cI, 10001, .inl jf_f))]) hx hb hts fw_Mo ty_Mo ty_Mo_ok nm_Mo hown hw 0 rfl rfl 5 (by decide +kernel) (hts _ wd_337) rfl rfl rfl (Nat.le_of_ble_eq_true rfl) rfl d_Mo_put_28 (fun H locs hw => ?_)
    obtain ⟨rfl, rfl⟩ := tp_inj2 hm
    exact tp_vret () hx hb hr hlocks hw d_Mo_put_31
end
abbrev rm_Mo_putNumber : Room := { frames := 1, cells := 0, slots := 0, locals := 21 }
abbrev ws_Mo_putNumber : List Cond := .code y_Mo_putNumber c_Mo_putNumber 4 none :: tpG
noncomputable def m_Mo_putNumber_2 (N : Nat) (rec2 : Int32 → Int32 → Int32 → Int32 → (Nat → Int32) → Option (Int32 × (Nat → Int32))) (x1 : Int32) (x2 : Int32) (x3 : Int32) (j_made : Int32) (jm_f : Nat → Int32) : Option (Int32 × (Nat → Int32)) :=
  if x2 ≤ x3 then
    some (j_made, jm_f)
  else
    tp_b2 (m_Mo_put (tp_ushr x1 ((8 : Int32) * x3)) j_made jm_f) fun j_made_2 jm_f_3 =>
    rec2 x1 x2 (x3 + (1 : Int32)) j_made_2 jm_f_3
noncomputable def m_Mo_putNumber (N : Nat) (x1 : Int32) (x2 : Int32) (j_made : Int32) (jm_f : Nat → Int32) : Option (Int32 × (Nat → Int32)) :=
  tp_it5 (m_Mo_putNumber_2 N ) N x1 x2 (0 : Int32) j_made jm_f
section
variable {p : Program} {l : Launch} {e : Env} {s : State} {m : MethodId} {args : Array Value} {below : List Frame} {meth : Method} {c : Code} {A : Nat → Prop} {D : va_G} {cB cI : ClassId} {tM : Nat}
set_option maxHeartbeats 4000000 in
set_option maxRecDepth 100000 in
theorem w_Mo_putNumber_2 {q_j q_ji q_jo q_jm q_jn q_jf : Nat} {j_in : Int32} {j_out : Int32} {j_known : Int32} {j_fat : Int32} {j_flong : Int32} {j_told : Int32} {j_at : Int32} {j_end : Int32} {j_fault : Int32} {j_fp : Int32} {ji_f : Nat → Int32} {jo_f : Nat → Int32} {jn_f : Nat → Int32} {jf_f : Nat → Int32} {N : Nat} {j_made' : Int32} {jm_f' : Nat → Int32} (hF2 : tp_F p m c c_Mo_putNumber 4 s args tpG R_Mo meth none) : ∀ (n : Nat), ∀ (x1 : Int32) (x2 : Int32) (x3 : Int32) (j_made : Int32) (jm_f : Nat → Int32) (H : Heap) (locs : List Loc) (ls : Array Slot), tp_it5 (m_Mo_putNumber_2 N ) n x1 x2 x3 j_made jm_f = some (j_made', jm_f') → tp_Wd D (tp_ty cB cI) tM A s H locs [(q_j, .inr (7, [.ref q_ji, .int j_in, .ref q_jo, .int j_out, .ref q_jm, .int j_made, .ref q_jn, .ref q_jf, .int j_known, .int j_fat, .int j_flong, .int j_told, .int j_at, .int j_end, .int j_fault, .int j_fp])), (q_ji, .inl (cB, 10000, .inl ji_f)), (q_jo, .inl (cB, 10000, .inl jo_f)), (q_jm, .inl (cB, 20000, .inl jm_f)), (q_jn, .inl (cI, 10001, .inl jn_f)), (q_jf, .inl (cI, 10001, .inl jf_f))] → lv_has ls 4 [(0, .ref q_j), (1, .int x1), (2, .int x2), (3, .int x3)] → W p l e rm_Mo_putNumber s m args below meth c H locs 0 0 (MQ below (tp_Qv (S := Unit) D A (fun _ => [(q_j, .inr (7, [.ref q_ji, .int j_in, .ref q_jo, .int j_out, .ref q_jm, .int j_made', .ref q_jn, .ref q_jf, .int j_known, .int j_fat, .int j_flong, .int j_told, .int j_at, .int j_end, .int j_fault, .int j_fp])), (q_ji, .inl (cB, 10000, .inl ji_f)), (q_jo, .inl (cB, 10000, .inl jo_f)), (q_jm, .inl (cB, 20000, .inl jm_f')), (q_jn, .inl (cI, 10001, .inl jn_f)), (q_jf, .inl (cI, 10001, .inl jf_f))])) args s 0 0 A) (F0 m 2 ls []) := by
  obtain ⟨hF, hr, hlocks⟩ := id hF2
  obtain ⟨hx, hb, hml, hown, hts⟩ := id hF
  intro n
  induction n with
  | zero => intro x1 x2 x3 j_made jm_f H locs ls hm; exact absurd hm (by simp [tp_it5])
  | succ n ih2 =>
    intro x1 x2 x3 j_made jm_f H locs ls hm hw hl
    replace hm : m_Mo_putNumber_2 N  (tp_it5 (m_Mo_putNumber_2 N ) n) x1 x2 x3 j_made jm_f = some (j_made', jm_f') := hm
    unfold m_Mo_putNumber_2 at hm
    refine lv_iload_n hx hb d_Mo_putNumber_2 rfl (lv_at hl 3 rfl) ?_
    refine lv_iload_n hx hb d_Mo_putNumber_3 rfl (lv_at hl 2 rfl) ?_
    refine lv_icmp_ge (tgt := 23) hx hb d_Mo_putNumber_4 (by decide +kernel) (fun hc1 => ?_) (fun hc1 => ?_)
    · replace hm := tp_it hc1 hm
      obtain ⟨rfl, rfl⟩ := tp_inj2 hm
      exact tp_vret () hx hb hr hlocks hw d_Mo_putNumber_23
    · replace hm := tp_if hc1 hm
      refine lv_aload_n hx hb d_Mo_putNumber_7 rfl (lv_at hl 0 rfl) ?_
      refine lv_iload_n hx hb d_Mo_putNumber_8 rfl (lv_at hl 1 rfl) ?_
      refine lv_bipush (v := (8 : Int32)) hx hb d_Mo_putNumber_9 (by decide +kernel) ?_
      refine lv_iload_n hx hb d_Mo_putNumber_11 rfl (lv_at hl 3 rfl) ?_
      refine lv_imul hx hb d_Mo_putNumber_12 ?_
      refine lv_iushr (v := (tp_ushr x1 ((8 : Int32) * x3))) hx hb d_Mo_putNumber_13 rfl ?_
      obtain ⟨j_made_2, jm_f_3, hm4, hm⟩ := tp_b2_e hm
      refine tp_callv (wr := []) (WS' := [(q_j, .inr (7, [.ref q_ji, .int j_in, .ref q_jo, .int j_out, .ref q_jm, .int j_made_2, .ref q_jn, .ref q_jf, .int j_known, .int j_fat, .int j_flong, .int j_told, .int j_at, .int j_end, .int j_fault, .int j_fp])), (q_ji, .inl (cB, 10000, .inl ji_f)), (q_jo, .inl (cB, 10000, .inl jo_f)), (q_jm, .inl (cB, 20000, .inl jm_f_3)), (q_jn, .inl (cI, 10001, .inl jn_f)), (q_jf, .inl (cI, 10001, .inl jf_f))]) (va_runV (As := [.int (tp_ushr x1 ((8 : Int32) * x3))]) (rest := []) hF (ct_Mo_put (l := l) (D := D) (cB := cB) (cI := cI) (tM := tM) (q_j := q_j) (q_ji := q_ji) (q_jo := q_jo) (q_jm := q_jm) (q_jn := q_jn) (q_jf := q_jf) (j_in := j_in) (j_out := j_out) (j_made := j_made) (j_known := j_known) (j_fat := j_fat) (j_flong := j_flong) (j_told := j_told) (j_at := j_at) (j_end := j_end) (j_fault := j_fault) (j_fp := j_fp) (ji_f := ji_f) (jo_f := jo_f) (jm_f := jm_f) (jn_f := jn_f) (jf_f := jf_f) (x1 := (tp_ushr x1 ((8 : Int32) * x3))) (j_made' := j_made_2) (jm_f' := jm_f_3) hm4 _) (cwV 1 hts (tpG_V wd_341 wd_342 wd_343 wd_340 wd_339) rfl rfl rfl ⟨rfl, yd_Mo_put⟩ ⟨Nat.le_of_ble_eq_true rfl, Nat.le_of_ble_eq_true rfl⟩) ⟨tp_blind, va_recv hw.1 hw.2.1 (ci := 7) (q0 := 0) rfl rfl, tp_pre hw [0, 1, 2, 3, 4, 5] rfl rfl⟩ rfl rfl hl.1 rfl (lv_room (Nat.le_of_ble_eq_true rfl)) d_Mo_putNumber_14 ⟨Nat.le_of_ble_eq_true rfl, Nat.le_of_ble_eq_true rfl⟩) hw [0, 1, 2, 3, 4, 5] [] [0, 1, 2, 3, 4, 5] rfl rfl rfl (by decide) rfl rfl (fun H locs hw => ?_)
      refine lv_iinc (v := (x3 + (1 : Int32))) (lv' := [(3, .int (x3 + (1 : Int32))), (0, .ref q_j), (1, .int x1), (2, .int x2)]) hx hb d_Mo_putNumber_17 hl (k := 3) rfl rfl (by decide +kernel) rfl (fun ls hl => ?_)
      refine lv_goto (tgt := 2) hx hb d_Mo_putNumber_20 (by decide +kernel) ?_
      exact ih2 _ _ _ _ _ _ _ _ hm hw (lv_sub hl [1, 2, 3, 0] rfl)
set_option maxHeartbeats 4000000 in
set_option maxRecDepth 100000 in
theorem ct_Mo_putNumber {q_j q_ji q_jo q_jm q_jn q_jf : Nat} {j_in : Int32} {j_out : Int32} {j_made : Int32} {j_known : Int32} {j_fat : Int32} {j_flong : Int32} {j_told : Int32} {j_at : Int32} {j_end : Int32} {j_fault : Int32} {j_fp : Int32} {ji_f : Nat → Int32} {jo_f : Nat → Int32} {jm_f : Nat → Int32} {jn_f : Nat → Int32} {jf_f : Nat → Int32} {N : Nat} {x1 : Int32} {x2 : Int32} {j_made' : Int32} {jm_f' : Nat → Int32} (hm : m_Mo_putNumber N x1 x2 j_made jm_f = some (j_made', jm_f')) (sz : Nat) : tp_Cv l y_Mo_putNumber ws_Mo_putNumber rm_Mo_putNumber D (tp_ty cB cI) tM [.ref q_j, .int x1, .int x2] [(q_j, .inr (7, [.ref q_ji, .int j_in, .ref q_jo, .int j_out, .ref q_jm, .int j_made, .ref q_jn, .ref q_jf, .int j_known, .int j_fat, .int j_flong, .int j_told, .int j_at, .int j_end, .int j_fault, .int j_fp])), (q_ji, .inl (cB, 10000, .inl ji_f)), (q_jo, .inl (cB, 10000, .inl jo_f)), (q_jm, .inl (cB, 20000, .inl jm_f)), (q_jn, .inl (cI, 10001, .inl jn_f)), (q_jf, .inl (cI, 10001, .inl jf_f))] sz [(q_j, .inr (7, [.ref q_ji, .int j_in, .ref q_jo, .int j_out, .ref q_jm, .int j_made', .ref q_jn, .ref q_jf, .int j_known, .int j_fat, .int j_flong, .int j_told, .int j_at, .int j_end, .int j_fault, .int j_fp])), (q_ji, .inl (cB, 10000, .inl ji_f)), (q_jo, .inl (cB, 10000, .inl jo_f)), (q_jm, .inl (cB, 20000, .inl jm_f')), (q_jn, .inl (cI, 10001, .inl jn_f)), (q_jf, .inl (cI, 10001, .inl jf_f))] := by
  refine Met.ofW (cc := c_Mo_putNumber) (maxL := 4) (ret := none) (by decide) rfl ?_
  intro p e s m args below meth c s₁ B hml hv
  obtain ⟨rfl, hv⟩ := hv
  have hw := tp_entry hv
  generalize va_A [(q_j, .inr (7, [.ref q_ji, .int j_in, .ref q_jo, .int j_out, .ref q_jm, .int j_made, .ref q_jn, .ref q_jf, .int j_known, .int j_fat, .int j_flong, .int j_told, .int j_at, .int j_end, .int j_fault, .int j_fp])), (q_ji, .inl (cB, 10000, .inl ji_f)), (q_jo, .inl (cB, 10000, .inl jo_f)), (q_jm, .inl (cB, 20000, .inl jm_f)), (q_jn, .inl (cI, 10001, .inl jn_f)), (q_jf, .inl (cI, 10001, .inl jf_f))] sz = A at hw ⊢
  have hx := B.exec
  have hb := B.bytes
  have hr := B.returns
  have hts0 := atoms_spec (ws := ws_Mo_putNumber) B.pre
  have hts := fun w h => hts0 w (List.mem_cons_of_mem _ h)
  have hown : s.vm.findClass R_Mo = some m.cls := findClass_of_methodNamed B.named
  have hlocks := B.notSynchronized
  have hF : CallFix p m c c_Mo_putNumber 4 s _ tpG R_Mo := ⟨hx, hb, hml, hown, hts⟩
  have hF2 : tp_F p m c c_Mo_putNumber 4 s _ tpG R_Mo meth none := ⟨hF, hr, hlocks⟩
  have hl := lv_entry ([.ref q_j, .int x1, .int x2]) (n := 4) (Nat.le_of_ble_eq_true rfl)
  rw [lg_entry_eq]
  generalize (lg_sl ([.ref q_j, .int x1, .int x2]) ++ List.replicate (4 - (lg_sl ([.ref q_j, .int x1, .int x2])).length) Slot.unset).toArray = ls at hl ⊢
  replace hl : lv_has ls 4 [(0, .ref q_j), (1, .int x1), (2, .int x2)] := hl
  unfold m_Mo_putNumber at hm
  refine lv_iconst (v := (0 : Int32)) hx hb d_Mo_putNumber_0 (by decide +kernel) ?_
  refine lv_istore_n (lv' := [(3, .int (0 : Int32)), (0, .ref q_j), (1, .int x1), (2, .int x2)]) hx hb d_Mo_putNumber_1 rfl hl (by decide +kernel) rfl (fun ls hl => ?_)
  exact w_Mo_putNumber_2 hF2  N _ _ _ _ _ _ _ _ hm hw (lv_sub hl [1, 2, 3, 0] rfl)
end
abbrev rm_Mo_settle : Room := { frames := 0, cells := 0, slots := 0, locals := 0 }
abbrev ws_Mo_settle : List Cond := .code y_Mo_settle c_Mo_settle 2 (some .int) :: tpG
noncomputable def m_Mo_settle_2 (N : Nat) (j_made : Int32) (jm_f : Nat → Int32) (rec2 : Int32 → Int32 → (Nat → Int32) → Option (Int32 × Int32 × (Nat → Int32))) (x1 : Int32) (j_out : Int32) (jo_f : Nat → Int32) : Option (Int32 × Int32 × (Nat → Int32)) :=
  if j_made ≤ x1 then
    some (j_made, j_made, jo_f)
  else
    tp_gd (tp_inb x1 20000) <|
    tp_gd (tp_inb x1 10000) <|
    rec2 (x1 + (1 : Int32)) j_out (upd jo_f (Int32.toNatClampNeg x1) (vp_nar .byte (jm_f (Int32.toNatClampNeg x1))))
noncomputable def m_Mo_settle (N : Nat) (j_out : Int32) (j_made : Int32) (jo_f : Nat → Int32) (jm_f : Nat → Int32) : Option (Int32 × Int32 × (Nat → Int32)) :=
  tp_it3 (m_Mo_settle_2 N j_made jm_f ) N (0 : Int32) j_out jo_f
section
variable {p : Program} {l : Launch} {e : Env} {s : State} {m : MethodId} {args : Array Value} {below : List Frame} {meth : Method} {c : Code} {A : Nat → Prop} {D : va_G} {cB cI : ClassId} {tM : Nat}
set_option maxHeartbeats 4000000 in
set_option maxRecDepth 100000 in
theorem w_Mo_settle_2 {q_j q_ji q_jo q_jm q_jn q_jf : Nat} {j_in : Int32} {j_made : Int32} {j_known : Int32} {j_fat : Int32} {j_flong : Int32} {j_told : Int32} {j_at : Int32} {j_end : Int32} {j_fault : Int32} {j_fp : Int32} {ji_f : Nat → Int32} {jm_f : Nat → Int32} {jn_f : Nat → Int32} {jf_f : Nat → Int32} {N : Nat} {r : Int32} {j_out' : Int32} {jo_f' : Nat → Int32} (hF2 : tp_F p m c c_Mo_settle 2 s args tpG R_Mo meth (some .int)) : ∀ (n : Nat), ∀ (x1 : Int32) (j_out : Int32) (jo_f : Nat → Int32) (H : Heap) (locs : List Loc) (ls : Array Slot), tp_it3 (m_Mo_settle_2 N j_made jm_f ) n x1 j_out jo_f = some (r, j_out', jo_f') → tp_Wd D (tp_ty cB cI) tM A s H locs [(q_j, .inr (7, [.ref q_ji, .int j_in, .ref q_jo, .int j_out, .ref q_jm, .int j_made, .ref q_jn, .ref q_jf, .int j_known, .int j_fat, .int j_flong, .int j_told, .int j_at, .int j_end, .int j_fault, .int j_fp])), (q_ji, .inl (cB, 10000, .inl ji_f)), (q_jo, .inl (cB, 10000, .inl jo_f)), (q_jm, .inl (cB, 20000, .inl jm_f)), (q_jn, .inl (cI, 10001, .inl jn_f)), (q_jf, .inl (cI, 10001, .inl jf_f))] → lv_has ls 2 [(0, .ref q_j), (1, .int x1)] → W p l e rm_Mo_settle s m args below meth c H locs 0 0 (MQ below (tp_Qi D A r [(q_j, .inr (7, [.ref q_ji, .int j_in, .ref q_jo, .int j_out', .ref q_jm, .int j_made, .ref q_jn, .ref q_jf, .int j_known, .int j_fat, .int j_flong, .int j_told, .int j_at, .int j_end, .int j_fault, .int j_fp])), (q_ji, .inl (cB, 10000, .inl ji_f)), (q_jo, .inl (cB, 10000, .inl jo_f')), (q_jm, .inl (cB, 20000, .inl jm_f)), (q_jn, .inl (cI, 10001, .inl jn_f)), (q_jf, .inl (cI, 10001, .inl jf_f))]) args s 0 0 A) (F0 m 2 ls []) := by
  obtain ⟨hF, hr, hlocks⟩ := id hF2
  obtain ⟨hx, hb, hml, hown, hts⟩ := id hF
  intro n
  induction n with
  | zero => intro x1 j_out jo_f H locs ls hm; exact absurd hm (by simp [tp_it3])
  | succ n ih2 =>
    intro x1 j_out jo_f H locs ls hm hw hl
    replace hm : m_Mo_settle_2 N j_made jm_f  (tp_it3 (m_Mo_settle_2 N j_made jm_f ) n) x1 j_out jo_f = some (r, j_out', jo_f') := hm
    unfold m_Mo_settle_2 at hm
    refine lv_iload_n hx hb d_Mo_settle_2 rfl (lv_at hl 1 rfl) ?_
    refine lv_aload_n hx hb d_Mo_settle_3 rfl (lv_at hl 0 rfl) ?_
    refine tp_get (v := .int j_made) (C := R_Mo) (T := T_Mo) hx hb hts fw_Mo hown hw 0 rfl rfl 5 (by decide +kernel) (hts _ wd_337) rfl d_Mo_settle_4 ?_
    refine lv_icmp_ge (tgt := 28) hx hb d_Mo_settle_7 (by decide +kernel) (fun hc1 => ?_) (fun hc1 => ?_)
    · replace hm := tp_it hc1 hm
      refine lv_aload_n hx hb d_Mo_settle_28 rfl (lv_at hl 0 rfl) ?_
      refine lv_aload_n hx hb d_Mo_settle_29 rfl (lv_at hl 0 rfl) ?_
      refine tp_get (v := .int j_made) (C := R_Mo) (T := T_Mo) hx hb hts fw_Mo hown hw 0 rfl rfl 5 (by decide +kernel) (hts _ wd_337) rfl d_Mo_settle_30 ?_
      refine tp_put (v := .int j_made) (C := R_Mo) (T := T_Mo) (WS' := [(q_j, .inr (7, [.ref q_ji, .int j_in, .ref q_jo, .int j_made, .ref q_jm, .int j_made, .ref q_jn, .ref q_jf, .int j_known, .int j_fat, .int j_flong, .int j_told, .int j_at, .int j_end, .int j_fault, .int j_fp])), (q_ji, .inl (cB, 10000, .inl ji_f)), (q_jo, .inl (cB, 10000, .inl jo_f)), (q_jm, .inl (cB, 20000, .inl jm_f)), (q_jn, .inl (cI, 10001, .inl jn_f)), (q_jf, .inl (cI, 10001, .inl jf_f))]) hx hb hts fw_Mo ty_Mo ty_Mo_ok nm_Mo hown hw 0 rfl rfl 3 (by decide +kernel) (hts _ wd_335) rfl rfl rfl (Nat.le_of_ble_eq_true rfl) rfl d_Mo_settle_33 (fun H locs hw => ?_)
      refine lv_aload_n hx hb d_Mo_settle_36 rfl (lv_at hl 0 rfl) ?_
      refine tp_get (v := .int j_made) (C := R_Mo) (T := T_Mo) hx hb hts fw_Mo hown hw 0 rfl rfl 3 (by decide +kernel) (hts _ wd_335) rfl d_Mo_settle_37 ?_
      obtain ⟨rfl, rfl, rfl⟩ := tp_inj3 hm
      exact tp_iret hx hb hr hlocks hw d_Mo_settle_40
    · replace hm := tp_if hc1 hm
      refine lv_aload_n hx hb d_Mo_settle_10 rfl (lv_at hl 0 rfl) ?_
      refine tp_get (v := .ref q_jo) (C := R_Mo) (T := T_Mo) hx hb hts fw_Mo hown hw 0 rfl rfl 2 (by decide +kernel) (hts _ wd_336) rfl d_Mo_settle_11 ?_
      refine lv_iload_n hx hb d_Mo_settle_14 rfl (lv_at hl 1 rfl) ?_
      refine lv_aload_n hx hb d_Mo_settle_15 rfl (lv_at hl 0 rfl) ?_
      refine tp_get (v := .ref q_jm) (C := R_Mo) (T := T_Mo) hx hb hts fw_Mo hown hw 0 rfl rfl 4 (by decide +kernel) (hts _ wd_338) rfl d_Mo_settle_16 ?_
      refine lv_iload_n hx hb d_Mo_settle_19 rfl (lv_at hl 1 rfl) ?_
      obtain ⟨hi2, hm⟩ := tp_gd_e hm
      refine tp_bald hx hb hw 3 0 rfl rfl hi2 d_Mo_settle_20 ?_
      obtain ⟨hi3, hm⟩ := tp_gd_e hm
      refine tp_bast (WS' := [(q_j, .inr (7, [.ref q_ji, .int j_in, .ref q_jo, .int j_out, .ref q_jm, .int j_made, .ref q_jn, .ref q_jf, .int j_known, .int j_fat, .int j_flong, .int j_told, .int j_at, .int j_end, .int j_fault, .int j_fp])), (q_ji, .inl (cB, 10000, .inl ji_f)), (q_jo, .inl (cB, 10000, .inl (upd jo_f (Int32.toNatClampNeg x1) (vp_nar .byte (jm_f (Int32.toNatClampNeg x1)))))), (q_jm, .inl (cB, 20000, .inl jm_f)), (q_jn, .inl (cI, 10001, .inl jn_f)), (q_jf, .inl (cI, 10001, .inl jf_f))]) hx hb hw 2 0 rfl rfl hi3 rfl d_Mo_settle_21 (fun H locs hw => ?_)
      refine lv_iinc (v := (x1 + (1 : Int32))) (lv' := [(1, .int (x1 + (1 : Int32))), (0, .ref q_j)]) hx hb d_Mo_settle_22 hl (k := 1) rfl rfl (by decide +kernel) rfl (fun ls hl => ?_)
      refine lv_goto (tgt := 2) hx hb d_Mo_settle_25 (by decide +kernel) ?_
      exact ih2 _ _ _ _ _ _ hm hw (lv_sub hl [1, 0] rfl)
set_option maxHeartbeats 4000000 in
set_option maxRecDepth 100000 in
theorem ct_Mo_settle {q_j q_ji q_jo q_jm q_jn q_jf : Nat} {j_in : Int32} {j_out : Int32} {j_made : Int32} {j_known : Int32} {j_fat : Int32} {j_flong : Int32} {j_told : Int32} {j_at : Int32} {j_end : Int32} {j_fault : Int32} {j_fp : Int32} {ji_f : Nat → Int32} {jo_f : Nat → Int32} {jm_f : Nat → Int32} {jn_f : Nat → Int32} {jf_f : Nat → Int32} {N : Nat} {r : Int32} {j_out' : Int32} {jo_f' : Nat → Int32} (hm : m_Mo_settle N j_out j_made jo_f jm_f = some (r, j_out', jo_f')) (sz : Nat) : tp_Ci l y_Mo_settle ws_Mo_settle rm_Mo_settle D (tp_ty cB cI) tM [.ref q_j] [(q_j, .inr (7, [.ref q_ji, .int j_in, .ref q_jo, .int j_out, .ref q_jm, .int j_made, .ref q_jn, .ref q_jf, .int j_known, .int j_fat, .int j_flong, .int j_told, .int j_at, .int j_end, .int j_fault, .int j_fp])), (q_ji, .inl (cB, 10000, .inl ji_f)), (q_jo, .inl (cB, 10000, .inl jo_f)), (q_jm, .inl (cB, 20000, .inl jm_f)), (q_jn, .inl (cI, 10001, .inl jn_f)), (q_jf, .inl (cI, 10001, .inl jf_f))] sz r [(q_j, .inr (7, [.ref q_ji, .int j_in, .ref q_jo, .int j_out', .ref q_jm, .int j_made, .ref q_jn, .ref q_jf, .int j_known, .int j_fat, .int j_flong, .int j_told, .int j_at, .int j_end, .int j_fault, .int j_fp])), (q_ji, .inl (cB, 10000, .inl ji_f)), (q_jo, .inl (cB, 10000, .inl jo_f')), (q_jm, .inl (cB, 20000, .inl jm_f)), (q_jn, .inl (cI, 10001, .inl jn_f)), (q_jf, .inl (cI, 10001, .inl jf_f))] := by
  refine Met.ofW (cc := c_Mo_settle) (maxL := 2) (ret := (some .int)) (by decide) rfl ?_
  intro p e s m args below meth c s₁ B hml hv
  obtain ⟨rfl, hv⟩ := hv
  have hw := tp_entry hv
  generalize va_A [(q_j, .inr (7, [.ref q_ji, .int j_in, .ref q_jo, .int j_out, .ref q_jm, .int j_made, .ref q_jn, .ref q_jf, .int j_known, .int j_fat, .int j_flong, .int j_told, .int j_at, .int j_end, .int j_fault, .int j_fp])), (q_ji, .inl (cB, 10000, .inl ji_f)), (q_jo, .inl (cB, 10000, .inl jo_f)), (q_jm, .inl (cB, 20000, .inl jm_f)), (q_jn, .inl (cI, 10001, .inl jn_f)), (q_jf, .inl (cI, 10001, .inl jf_f))] sz = A at hw ⊢
  have hx := B.exec
  have hb := B.bytes
  have hr := B.returns
  have hts0 := atoms_spec (ws := ws_Mo_settle) B.pre
  have hts := fun w h => hts0 w (List.mem_cons_of_mem _ h)
  have hown : s.vm.findClass R_Mo = some m.cls := findClass_of_methodNamed B.named
  have hlocks := B.notSynchronized
  have hF : CallFix p m c c_Mo_settle 2 s _ tpG R_Mo := ⟨hx, hb, hml, hown, hts⟩
  have hF2 : tp_F p m c c_Mo_settle 2 s _ tpG R_Mo meth (some .int) := ⟨hF, hr, hlocks⟩
  have hl := lv_entry ([.ref q_j]) (n := 2) (Nat.le_of_ble_eq_true rfl)
  rw [lg_entry_eq]
  generalize (lg_sl ([.ref q_j]) ++ List.replicate (2 - (lg_sl ([.ref q_j])).length) Slot.unset).toArray = ls at hl ⊢
  replace hl : lv_has ls 2 [(0, .ref q_j)] := hl
  unfold m_Mo_settle at hm
  refine lv_iconst (v := (0 : Int32)) hx hb d_Mo_settle_0 (by decide +kernel) ?_
  refine lv_istore_n (lv' := [(1, .int (0 : Int32)), (0, .ref q_j)]) hx hb d_Mo_settle_1 rfl hl (by decide +kernel) rfl (fun ls hl => ?_)
  exact w_Mo_settle_2 hF2  N _ _ _ _ _ _ hm hw (lv_sub hl [1, 0] rfl)
end
abbrev rm_Mo_alike : Room := { frames := 0, cells := 0, slots := 0, locals := 0 }
abbrev ws_Mo_alike : List Cond := .code y_Mo_alike c_Mo_alike 5 (some .int) :: tpG
noncomputable def m_Mo_alike_3 (N : Nat) (ji_f : Nat → Int32) (rec3 : Int32 → Int32 → Int32 → Int32 → Option (Int32)) (x1 : Int32) (x2 : Int32) (x3 : Int32) (x4 : Int32) : Option (Int32) :=
  if x3 ≤ (x2 + x4) then
    some (x4)
  else
    tp_gd (tp_inb (x1 + x4) 10000) <|
    tp_gd (tp_inb (x2 + x4) 10000) <|
    if (ji_f (Int32.toNatClampNeg (x1 + x4))) = (ji_f (Int32.toNatClampNeg (x2 + x4))) then
      rec3 x1 x2 x3 (x4 + (1 : Int32))
    else
      some (x4)
noncomputable def m_Mo_alike (N : Nat) (x1 : Int32) (x2 : Int32) (x3 : Int32) (ji_f : Nat → Int32) : Option (Int32) :=
  tp_it4 (m_Mo_alike_3 N ji_f ) N x1 x2 x3 (0 : Int32)
section
variable {p : Program} {l : Launch} {e : Env} {s : State} {m : MethodId} {args : Array Value} {below : List Frame} {meth : Method} {c : Code} {A : Nat → Prop} {D : va_G} {cB cI : ClassId} {tM : Nat}
set_option maxHeartbeats 4000000 in
set_option maxRecDepth 100000 in
theorem w_Mo_alike_3 {q_j q_ji q_jo q_jm q_jn q_jf : Nat} {j_in : Int32} {j_out : Int32} {j_made : Int32} {j_known : Int32} {j_fat : Int32} {j_flong : Int32} {j_told : Int32} {j_at : Int32} {j_end : Int32} {j_fault : Int32} {j_fp : Int32} {ji_f : Nat → Int32} {jo_f : Nat → Int32} {jm_f : Nat → Int32} {jn_f : Nat → Int32} {jf_f : Nat → Int32} {N : Nat} {r : Int32} (hF2 : tp_F p m c c_Mo_alike 5 s args tpG R_Mo meth (some .int)) : ∀ (n : Nat), ∀ (x1 : Int32) (x2 : Int32) (x3 : Int32) (x4 : Int32) (H : Heap) (locs : List Loc) (ls : Array Slot), tp_it4 (m_Mo_alike_3 N ji_f ) n x1 x2 x3 x4 = some (r) → tp_Wd D (tp_ty cB cI) tM A s H locs [(q_j, .inr (7, [.ref q_ji, .int j_in, .ref q_jo, .int j_out, .ref q_jm, .int j_made, .ref q_jn, .ref q_jf, .int j_known, .int j_fat, .int j_flong, .int j_told, .int j_at, .int j_end, .int j_fault, .int j_fp])), (q_ji, .inl (cB, 10000, .inl ji_f)), (q_jo, .inl (cB, 10000, .inl jo_f)), (q_jm, .inl (cB, 20000, .inl jm_f)), (q_jn, .inl (cI, 10001, .inl jn_f)), (q_jf, .inl (cI, 10001, .inl jf_f))] → lv_has ls 5 [(0, .ref q_j), (1, .int x1), (2, .int x2), (3, .int x3), (4, .int x4)] → W p l e rm_Mo_alike s m args below meth c H locs 0 0 (MQ below (tp_Qi D A r [(q_j, .inr (7, [.ref q_ji, .int j_in, .ref q_jo, .int j_out, .ref q_jm, .int j_made, .ref q_jn, .ref q_jf, .int j_known, .int j_fat, .int j_flong, .int j_told, .int j_at, .int j_end, .int j_fault, .int j_fp])), (q_ji, .inl (cB, 10000, .inl ji_f)), (q_jo, .inl (cB, 10000, .inl jo_f)), (q_jm, .inl (cB, 20000, .inl jm_f)), (q_jn, .inl (cI, 10001, .inl jn_f)), (q_jf, .inl (cI, 10001, .inl jf_f))]) args s 0 0 A) (F0 m 3 ls []) := by
  obtain ⟨hF, hr, hlocks⟩ := id hF2
  obtain ⟨hx, hb, hml, hown, hts⟩ := id hF
  intro n
  induction n with
  | zero => intro x1 x2 x3 x4 H locs ls hm; exact absurd hm (by simp [tp_it4])
  | succ n ih3 =>
    intro x1 x2 x3 x4 H locs ls hm hw hl
    replace hm : m_Mo_alike_3 N ji_f  (tp_it4 (m_Mo_alike_3 N ji_f ) n) x1 x2 x3 x4 = some (r) := hm
    unfold m_Mo_alike_3 at hm
    refine lv_iload_n hx hb d_Mo_alike_3 rfl (lv_at hl 2 rfl) ?_
    refine lv_iload hx hb d_Mo_alike_4 (lv_at hl 4 rfl) ?_
    refine lv_iadd hx hb d_Mo_alike_6 ?_
    refine lv_iload_n hx hb d_Mo_alike_7 rfl (lv_at hl 3 rfl) ?_
    refine lv_icmp_ge (tgt := 38) hx hb d_Mo_alike_8 (by decide +kernel) (fun hc1 => ?_) (fun hc1 => ?_)
    · replace hm := tp_it hc1 hm
      refine lv_iload hx hb d_Mo_alike_38 (lv_at hl 4 rfl) ?_
      obtain rfl := tp_inj1 hm
      exact tp_iret hx hb hr hlocks hw d_Mo_alike_40
    · replace hm := tp_if hc1 hm
      refine lv_aload_n hx hb d_Mo_alike_11 rfl (lv_at hl 0 rfl) ?_
      refine tp_get (v := .ref q_ji) (C := R_Mo) (T := T_Mo) hx hb hts fw_Mo hown hw 0 rfl rfl 0 (by decide +kernel) (hts _ wd_333) rfl d_Mo_alike_12 ?_
      refine lv_iload_n hx hb d_Mo_alike_15 rfl (lv_at hl 1 rfl) ?_
      refine lv_iload hx hb d_Mo_alike_16 (lv_at hl 4 rfl) ?_
      refine lv_iadd hx hb d_Mo_alike_18 ?_
      obtain ⟨hi2, hm⟩ := tp_gd_e hm
      refine tp_bald hx hb hw 1 0 rfl rfl hi2 d_Mo_alike_19 ?_
      refine lv_aload_n hx hb d_Mo_alike_20 rfl (lv_at hl 0 rfl) ?_
      refine tp_get (v := .ref q_ji) (C := R_Mo) (T := T_Mo) hx hb hts fw_Mo hown hw 0 rfl rfl 0 (by decide +kernel) (hts _ wd_333) rfl d_Mo_alike_21 ?_
      refine lv_iload_n hx hb d_Mo_alike_24 rfl (lv_at hl 2 rfl) ?_
      refine lv_iload hx hb d_Mo_alike_25 (lv_at hl 4 rfl) ?_
      refine lv_iadd hx hb d_Mo_alike_27 ?_
      obtain ⟨hi3, hm⟩ := tp_gd_e hm
      refine tp_bald hx hb hw 1 0 rfl rfl hi3 d_Mo_alike_28 ?_
      refine lv_icmp_ne (tgt := 38) hx hb d_Mo_alike_29 (by decide +kernel) (fun hc4 => ?_) (fun hc4 => ?_)
      · replace hm := tp_if hc4 hm
        refine lv_iload hx hb d_Mo_alike_38 (lv_at hl 4 rfl) ?_
        obtain rfl := tp_inj1 hm
        exact tp_iret hx hb hr hlocks hw d_Mo_alike_40
      · replace hm := tp_it hc4 hm
        refine lv_iinc (v := (x4 + (1 : Int32))) (lv' := [(4, .int (x4 + (1 : Int32))), (0, .ref q_j), (1, .int x1), (2, .int x2), (3, .int x3)]) hx hb d_Mo_alike_32 hl (k := 4) rfl rfl (by decide +kernel) rfl (fun ls hl => ?_)
        refine lv_goto (tgt := 3) hx hb d_Mo_alike_35 (by decide +kernel) ?_
        exact ih3 _ _ _ _ _ _ _ hm hw (lv_sub hl [1, 2, 3, 4, 0] rfl)
set_option maxHeartbeats 4000000 in
set_option maxRecDepth 100000 in
theorem ct_Mo_alike {q_j q_ji q_jo q_jm q_jn q_jf : Nat} {j_in : Int32} {j_out : Int32} {j_made : Int32} {j_known : Int32} {j_fat : Int32} {j_flong : Int32} {j_told : Int32} {j_at : Int32} {j_end : Int32} {j_fault : Int32} {j_fp : Int32} {ji_f : Nat → Int32} {jo_f : Nat → Int32} {jm_f : Nat → Int32} {jn_f : Nat → Int32} {jf_f : Nat → Int32} {N : Nat} {x1 : Int32} {x2 : Int32} {x3 : Int32} {r : Int32} (hm : m_Mo_alike N x1 x2 x3 ji_f = some (r)) (sz : Nat) : tp_Ci l y_Mo_alike ws_Mo_alike rm_Mo_alike D (tp_ty cB cI) tM [.ref q_j, .int x1, .int x2, .int x3] [(q_j, .inr (7, [.ref q_ji, .int j_in, .ref q_jo, .int j_out, .ref q_jm, .int j_made, .ref q_jn, .ref q_jf, .int j_known, .int j_fat, .int j_flong, .int j_told, .int j_at, .int j_end, .int j_fault, .int j_fp])), (q_ji, .inl (cB, 10000, .inl ji_f)), (q_jo, .inl (cB, 10000, .inl jo_f)), (q_jm, .inl (cB, 20000, .inl jm_f)), (q_jn, .inl (cI, 10001, .inl jn_f)), (q_jf, .inl (cI, 10001, .inl jf_f))] sz r [(q_j, .inr (7, [.ref q_ji, .int j_in, .ref q_jo, .int j_out, .ref q_jm, .int j_made, .ref q_jn, .ref q_jf, .int j_known, .int j_fat, .int j_flong, .int j_told, .int j_at, .int j_end, .int j_fault, .int j_fp])), (q_ji, .inl (cB, 10000, .inl ji_f)), (q_jo, .inl (cB, 10000, .inl jo_f)), (q_jm, .inl (cB, 20000, .inl jm_f)), (q_jn, .inl (cI, 10001, .inl jn_f)), (q_jf, .inl (cI, 10001, .inl jf_f))] := by
  refine Met.ofW (cc := c_Mo_alike) (maxL := 5) (ret := (some .int)) (by decide) rfl ?_
  intro p e s m args below meth c s₁ B hml hv
  obtain ⟨rfl, hv⟩ := hv
  have hw := tp_entry hv
  generalize va_A [(q_j, .inr (7, [.ref q_ji, .int j_in, .ref q_jo, .int j_out, .ref q_jm, .int j_made, .ref q_jn, .ref q_jf, .int j_known, .int j_fat, .int j_flong, .int j_told, .int j_at, .int j_end, .int j_fault, .int j_fp])), (q_ji, .inl (cB, 10000, .inl ji_f)), (q_jo, .inl (cB, 10000, .inl jo_f)), (q_jm, .inl (cB, 20000, .inl jm_f)), (q_jn, .inl (cI, 10001, .inl jn_f)), (q_jf, .inl (cI, 10001, .inl jf_f))] sz = A at hw ⊢
  have hx := B.exec
  have hb := B.bytes
  have hr := B.returns
  have hts0 := atoms_spec (ws := ws_Mo_alike) B.pre
  have hts := fun w h => hts0 w (List.mem_cons_of_mem _ h)
  have hown : s.vm.findClass R_Mo = some m.cls := findClass_of_methodNamed B.named
  have hlocks := B.notSynchronized
  have hF : CallFix p m c c_Mo_alike 5 s _ tpG R_Mo := ⟨hx, hb, hml, hown, hts⟩
  have hF2 : tp_F p m c c_Mo_alike 5 s _ tpG R_Mo meth (some .int) := ⟨hF, hr, hlocks⟩
  have hl := lv_entry ([.ref q_j, .int x1, .int x2, .int x3]) (n := 5) (Nat.le_of_ble_eq_true rfl)
  rw [lg_entry_eq]
  generalize (lg_sl ([.ref q_j, .int x1, .int x2, .int x3]) ++ List.replicate (5 - (lg_sl ([.ref q_j, .int x1, .int x2, .int x3])).length) Slot.unset).toArray = ls at hl ⊢
  replace hl : lv_has ls 5 [(0, .ref q_j), (1, .int x1), (2, .int x2), (3, .int x3)] := hl
  unfold m_Mo_alike at hm
  refine lv_iconst (v := (0 : Int32)) hx hb d_Mo_alike_0 (by decide +kernel) ?_
  refine lv_istore (lv' := [(4, .int (0 : Int32)), (0, .ref q_j), (1, .int x1), (2, .int x2), (3, .int x3)]) hx hb d_Mo_alike_1 hl (by decide +kernel) rfl (fun ls hl => ?_)
  exact w_Mo_alike_3 hF2  N _ _ _ _ _ _ _ hm hw (lv_sub hl [1, 2, 3, 4, 0] rfl)
end
abbrev rm_Mo_nearest : Room := { frames := 1, cells := 0, slots := 0, locals := 24 }
abbrev ws_Mo_nearest : List Cond := .code y_Mo_nearest c_Mo_nearest 7 none :: tpG
noncomputable def m_Mo_nearest_10 (N : Nat) (ji_f : Nat → Int32) (rec10 : Int32 → Int32 → Int32 → Int32 → Int32 → Int32 → Int32 → Option (Int32 × Int32)) (x1 : Int32) (x2 : Int32) (x3 : Int32) (x4 : Int32) (x5 : Int32) (j_fat : Int32) (j_flong : Int32) : Option (Int32 × Int32) :=
  if x5 < x1 then
    some (j_fat, j_flong)
  else
    if j_flong = 0 then
      tp_b1 (m_Mo_alike N x5 x2 x3 ji_f) fun r3 =>
      if r3 < x4 then
        rec10 x1 x2 x3 x4 (x5 + (-1 : Int32)) j_fat j_flong
      else
        rec10 x1 x2 x3 x4 (x5 + (-1 : Int32)) x5 r3
    else
      some (j_fat, j_flong)
noncomputable def m_Mo_nearest (N : Nat) (x1 : Int32) (x2 : Int32) (x3 : Int32) (x4 : Int32) (j_fat : Int32) (j_flong : Int32) (ji_f : Nat → Int32) : Option (Int32 × Int32) :=
  tp_it7 (m_Mo_nearest_10 N ji_f ) N x1 x2 x3 x4 (x2 - (1 : Int32)) j_fat (0 : Int32)
section
variable {p : Program} {l : Launch} {e : Env} {s : State} {m : MethodId} {args : Array Value} {below : List Frame} {meth : Method} {c : Code} {A : Nat → Prop} {D : va_G} {cB cI : ClassId} {tM : Nat}
set_option maxHeartbeats 4000000 in
set_option maxRecDepth 100000 in
theorem w_Mo_nearest_10 {q_j q_ji q_jo q_jm q_jn q_jf : Nat} {j_in : Int32} {j_out : Int32} {j_made : Int32} {j_known : Int32} {j_told : Int32} {j_at : Int32} {j_end : Int32} {j_fault : Int32} {j_fp : Int32} {ji_f : Nat → Int32} {jo_f : Nat → Int32} {jm_f : Nat → Int32} {jn_f : Nat → Int32} {jf_f : Nat → Int32} {N : Nat} {j_fat' : Int32} {j_flong' : Int32} (hF2 : tp_F p m c c_Mo_nearest 7 s args tpG R_Mo meth none) : ∀ (n : Nat), ∀ (x1 : Int32) (x2 : Int32) (x3 : Int32) (x4 : Int32) (x5 : Int32) (j_fat : Int32) (j_flong : Int32) (H : Heap) (locs : List Loc) (ls : Array Slot), tp_it7 (m_Mo_nearest_10 N ji_f ) n x1 x2 x3 x4 x5 j_fat j_flong = some (j_fat', j_flong') → tp_Wd D (tp_ty cB cI) tM A s H locs [(q_j, .inr (7, [.ref q_ji, .int j_in, .ref q_jo, .int j_out, .ref q_jm, .int j_made, .ref q_jn, .ref q_jf, .int j_known, .int j_fat, .int j_flong, .int j_told, .int j_at, .int j_end, .int j_fault, .int j_fp])), (q_ji, .inl (cB, 10000, .inl ji_f)), (q_jo, .inl (cB, 10000, .inl jo_f)), (q_jm, .inl (cB, 20000, .inl jm_f)), (q_jn, .inl (cI, 10001, .inl jn_f)), (q_jf, .inl (cI, 10001, .inl jf_f))] → lv_has ls 7 [(0, .ref q_j), (1, .int x1), (2, .int x2), (3, .int x3), (4, .int x4), (5, .int x5)] → W p l e rm_Mo_nearest s m args below meth c H locs 0 0 (MQ below (tp_Qv (S := Unit) D A (fun _ => [(q_j, .inr (7, [.ref q_ji, .int j_in, .ref q_jo, .int j_out, .ref q_jm, .int j_made, .ref q_jn, .ref q_jf, .int j_known, .int j_fat', .int j_flong', .int j_told, .int j_at, .int j_end, .int j_fault, .int j_fp])), (q_ji, .inl (cB, 10000, .inl ji_f)), (q_jo, .inl (cB, 10000, .inl jo_f)), (q_jm, .inl (cB, 20000, .inl jm_f)), (q_jn, .inl (cI, 10001, .inl jn_f)), (q_jf, .inl (cI, 10001, .inl jf_f))])) args s 0 0 A) (F0 m 10 ls []) := by
  obtain ⟨hF, hr, hlocks⟩ := id hF2
  obtain ⟨hx, hb, hml, hown, hts⟩ := id hF
  intro n
  induction n with
  | zero => intro x1 x2 x3 x4 x5 j_fat j_flong H locs ls hm; exact absurd hm (by simp [tp_it7])
  | succ n ih10 =>
    intro x1 x2 x3 x4 x5 j_fat j_flong H locs ls hm hw hl
    replace hm : m_Mo_nearest_10 N ji_f  (tp_it7 (m_Mo_nearest_10 N ji_f ) n) x1 x2 x3 x4 x5 j_fat j_flong = some (j_fat', j_flong') := hm
    unfold m_Mo_nearest_10 at hm
    refine lv_iload hx hb d_Mo_nearest_10 (lv_at hl 5 rfl) ?_
    refine lv_iload_n hx hb d_Mo_nearest_12 rfl (lv_at hl 1 rfl) ?_
    refine lv_icmp_lt (tgt := 58) hx hb d_Mo_nearest_13 (by decide +kernel) (fun hc1 => ?_) (fun hc1 => ?_)
    · replace hm := tp_it hc1 hm
      obtain ⟨rfl, rfl⟩ := tp_inj2 hm
      exact tp_vret () hx hb hr hlocks hw d_Mo_nearest_58
    · replace hm := tp_if hc1 hm
      refine lv_aload_n hx hb d_Mo_nearest_16 rfl (lv_at hl 0 rfl) ?_
      refine tp_get (v := .int j_flong) (C := R_Mo) (T := T_Mo) hx hb hts fw_Mo hown hw 0 rfl rfl 10 (by decide +kernel) (hts _ wd_344) rfl d_Mo_nearest_17 ?_
      refine lv_if_ne (tgt := 58) hx hb d_Mo_nearest_20 (by decide +kernel) (fun hc2 => ?_) (fun hc2 => ?_)
      · replace hm := tp_if hc2 hm
        obtain ⟨rfl, rfl⟩ := tp_inj2 hm
        exact tp_vret () hx hb hr hlocks hw d_Mo_nearest_58
      · replace hm := tp_it hc2 hm
        refine lv_aload_n hx hb d_Mo_nearest_23 rfl (lv_at hl 0 rfl) ?_
        refine lv_iload hx hb d_Mo_nearest_24 (lv_at hl 5 rfl) ?_
        refine lv_iload_n hx hb d_Mo_nearest_26 rfl (lv_at hl 2 rfl) ?_
        refine lv_iload_n hx hb d_Mo_nearest_27 rfl (lv_at hl 3 rfl) ?_
        obtain ⟨r3, hm4, hm⟩ := tp_b1_e hm
        refine tp_calli (wr := []) (WS' := [(q_j, .inr (7, [.ref q_ji, .int j_in, .ref q_jo, .int j_out, .ref q_jm, .int j_made, .ref q_jn, .ref q_jf, .int j_known, .int j_fat, .int j_flong, .int j_told, .int j_at, .int j_end, .int j_fault, .int j_fp])), (q_ji, .inl (cB, 10000, .inl ji_f)), (q_jo, .inl (cB, 10000, .inl jo_f)), (q_jm, .inl (cB, 20000, .inl jm_f)), (q_jn, .inl (cI, 10001, .inl jn_f)), (q_jf, .inl (cI, 10001, .inl jf_f))]) (va_runV (As := [.int x5, .int x2, .int x3]) (rest := []) hF (ct_Mo_alike (l := l) (D := D) (cB := cB) (cI := cI) (tM := tM) (q_j := q_j) (q_ji := q_ji) (q_jo := q_jo) (q_jm := q_jm) (q_jn := q_jn) (q_jf := q_jf) (j_in := j_in) (j_out := j_out) (j_made := j_made) (j_known := j_known) (j_fat := j_fat) (j_flong := j_flong) (j_told := j_told) (j_at := j_at) (j_end := j_end) (j_fault := j_fault) (j_fp := j_fp) (ji_f := ji_f) (jo_f := jo_f) (jm_f := jm_f) (jn_f := jn_f) (jf_f := jf_f) (x1 := x5) (x2 := x2) (x3 := x3) (N := N) (r := r3) hm4 _) (cwV 3 hts (tpG_V wd_346 wd_347 wd_348 wd_340 wd_345) rfl rfl rfl ⟨rfl, yd_Mo_alike⟩ ⟨Nat.le_of_ble_eq_true rfl, Nat.le_of_ble_eq_true rfl⟩) ⟨tp_blind, va_recv hw.1 hw.2.1 (ci := 7) (q0 := 0) rfl rfl, tp_pre hw [0, 1, 2, 3, 4, 5] rfl rfl⟩ rfl rfl hl.1 rfl (lv_room (Nat.le_of_ble_eq_true rfl)) d_Mo_nearest_28 ⟨Nat.le_of_ble_eq_true rfl, Nat.le_of_ble_eq_true rfl⟩) hw [0, 1, 2, 3, 4, 5] [] [0, 1, 2, 3, 4, 5] rfl rfl rfl (by decide) rfl rfl (fun H locs hw => ?_)
        refine lv_istore (lv' := [(6, .int r3), (0, .ref q_j), (1, .int x1), (2, .int x2), (3, .int x3), (4, .int x4), (5, .int x5)]) hx hb d_Mo_nearest_31 hl (by decide +kernel) rfl (fun ls hl => ?_)
        refine lv_iload hx hb d_Mo_nearest_33 (lv_at hl 0 rfl) ?_
        refine lv_iload hx hb d_Mo_nearest_35 (lv_at hl 5 rfl) ?_
        refine lv_icmp_lt (tgt := 52) hx hb d_Mo_nearest_37 (by decide +kernel) (fun hc5 => ?_) (fun hc5 => ?_)
        · replace hm := tp_it hc5 hm
          refine lv_iinc (v := (x5 + (-1 : Int32))) (lv' := [(5, .int (x5 + (-1 : Int32))), (6, .int r3), (0, .ref q_j), (1, .int x1), (2, .int x2), (3, .int x3), (4, .int x4)]) hx hb d_Mo_nearest_52 hl (k := 6) rfl rfl (by decide +kernel) rfl (fun ls hl => ?_)
          refine lv_goto (tgt := 10) hx hb d_Mo_nearest_55 (by decide +kernel) ?_
          exact ih10 _ _ _ _ _ _ _ _ _ _ hm hw (lv_sub hl [2, 3, 4, 5, 6, 0] rfl)
        · replace hm := tp_if hc5 hm
          refine lv_aload_n hx hb d_Mo_nearest_40 rfl (lv_at hl 1 rfl) ?_
          refine lv_iload hx hb d_Mo_nearest_41 (lv_at hl 6 rfl) ?_
          refine tp_put (v := .int x5) (C := R_Mo) (T := T_Mo) (WS' := [(q_j, .inr (7, [.ref q_ji, .int j_in, .ref q_jo, .int j_out, .ref q_jm, .int j_made, .ref q_jn, .ref q_jf, .int j_known, .int x5, .int j_flong, .int j_told, .int j_at, .int j_end, .int j_fault, .int j_fp])), (q_ji, .inl (cB, 10000, .inl ji_f)), (q_jo, .inl (cB, 10000, .inl jo_f)), (q_jm, .inl (cB, 20000, .inl jm_f)), (q_jn, .inl (cI, 10001, .inl jn_f)), (q_jf, .inl (cI, 10001, .inl jf_f))]) hx hb hts fw_Mo ty_Mo ty_Mo_ok nm_Mo hown hw 0 rfl rfl 9 (by decide +kernel) (hts _ wd_349) rfl rfl rfl (Nat.le_of_ble_eq_true rfl) rfl d_Mo_nearest_43 (fun H locs hw => ?_)
          refine lv_aload_n hx hb d_Mo_nearest_46 rfl (lv_at hl 1 rfl) ?_
          refine lv_iload hx hb d_Mo_nearest_47 (lv_at hl 0 rfl) ?_
          refine tp_put (v := .int r3) (C := R_Mo) (T := T_Mo) (WS' := [(q_j, .inr (7, [.ref q_ji, .int j_in, .ref q_jo, .int j_out, .ref q_jm, .int j_made, .ref q_jn, .ref q_jf, .int j_known, .int x5, .int r3, .int j_told, .int j_at, .int j_end, .int j_fault, .int j_fp])), (q_ji, .inl (cB, 10000, .inl ji_f)), (q_jo, .inl (cB, 10000, .inl jo_f)), (q_jm, .inl (cB, 20000, .inl jm_f)), (q_jn, .inl (cI, 10001, .inl jn_f)), (q_jf, .inl (cI, 10001, .inl jf_f))]) hx hb hts fw_Mo ty_Mo ty_Mo_ok nm_Mo hown hw 0 rfl rfl 10 (by decide +kernel) (hts _ wd_344) rfl rfl rfl (Nat.le_of_ble_eq_true rfl) rfl d_Mo_nearest_49 (fun H locs hw => ?_)
          refine lv_iinc (v := (x5 + (-1 : Int32))) (lv' := [(5, .int (x5 + (-1 : Int32))), (6, .int r3), (0, .ref q_j), (1, .int x1), (2, .int x2), (3, .int x3), (4, .int x4)]) hx hb d_Mo_nearest_52 hl (k := 6) rfl rfl (by decide +kernel) rfl (fun ls hl => ?_)
          refine lv_goto (tgt := 10) hx hb d_Mo_nearest_55 (by decide +kernel) ?_
          exact ih10 _ _ _ _ _ _ _ _ _ _ hm hw (lv_sub hl [2, 3, 4, 5, 6, 0] rfl)
set_option maxHeartbeats 4000000 in
set_option maxRecDepth 100000 in
theorem ct_Mo_nearest {q_j q_ji q_jo q_jm q_jn q_jf : Nat} {j_in : Int32} {j_out : Int32} {j_made : Int32} {j_known : Int32} {j_fat : Int32} {j_flong : Int32} {j_told : Int32} {j_at : Int32} {j_end : Int32} {j_fault : Int32} {j_fp : Int32} {ji_f : Nat → Int32} {jo_f : Nat → Int32} {jm_f : Nat → Int32} {jn_f : Nat → Int32} {jf_f : Nat → Int32} {N : Nat} {x1 : Int32} {x2 : Int32} {x3 : Int32} {x4 : Int32} {j_fat' : Int32} {j_flong' : Int32} (hm : m_Mo_nearest N x1 x2 x3 x4 j_fat j_flong ji_f = some (j_fat', j_flong')) (sz : Nat) : tp_Cv l y_Mo_nearest ws_Mo_nearest rm_Mo_nearest D (tp_ty cB cI) tM [.ref q_j, .int x1, .int x2, .int x3, .int x4] [(q_j, .inr (7, [.ref q_ji, .int j_in, .ref q_jo, .int j_out, .ref q_jm, .int j_made, .ref q_jn, .ref q_jf, .int j_known, .int j_fat, .int j_flong, .int j_told, .int j_at, .int j_end, .int j_fault, .int j_fp])), (q_ji, .inl (cB, 10000, .inl ji_f)), (q_jo, .inl (cB, 10000, .inl jo_f)), (q_jm, .inl (cB, 20000, .inl jm_f)), (q_jn, .inl (cI, 10001, .inl jn_f)), (q_jf, .inl (cI, 10001, .inl jf_f))] sz [(q_j, .inr (7, [.ref q_ji, .int j_in, .ref q_jo, .int j_out, .ref q_jm, .int j_made, .ref q_jn, .ref q_jf, .int j_known, .int j_fat', .int j_flong', .int j_told, .int j_at, .int j_end, .int j_fault, .int j_fp])), (q_ji, .inl (cB, 10000, .inl ji_f)), (q_jo, .inl (cB, 10000, .inl jo_f)), (q_jm, .inl (cB, 20000, .inl jm_f)), (q_jn, .inl (cI, 10001, .inl jn_f)), (q_jf, .inl (cI, 10001, .inl jf_f))] := by
  refine Met.ofW (cc := c_Mo_nearest) (maxL := 7) (ret := none) (by decide) rfl ?_
  intro p e s m args below meth c s₁ B hml hv
  obtain ⟨rfl, hv⟩ := hv
  have hw := tp_entry hv
  generalize va_A [(q_j, .inr (7, [.ref q_ji, .int j_in, .ref q_jo, .int j_out, .ref q_jm, .int j_made, .ref q_jn, .ref q_jf, .int j_known, .int j_fat, .int j_flong, .int j_told, .int j_at, .int j_end, .int j_fault, .int j_fp])), (q_ji, .inl (cB, 10000, .inl ji_f)), (q_jo, .inl (cB, 10000, .inl jo_f)), (q_jm, .inl (cB, 20000, .inl jm_f)), (q_jn, .inl (cI, 10001, .inl jn_f)), (q_jf, .inl (cI, 10001, .inl jf_f))] sz = A at hw ⊢
  have hx := B.exec
  have hb := B.bytes
  have hr := B.returns
  have hts0 := atoms_spec (ws := ws_Mo_nearest) B.pre
  have hts := fun w h => hts0 w (List.mem_cons_of_mem _ h)
  have hown : s.vm.findClass R_Mo = some m.cls := findClass_of_methodNamed B.named
  have hlocks := B.notSynchronized
  have hF : CallFix p m c c_Mo_nearest 7 s _ tpG R_Mo := ⟨hx, hb, hml, hown, hts⟩
  have hF2 : tp_F p m c c_Mo_nearest 7 s _ tpG R_Mo meth none := ⟨hF, hr, hlocks⟩
  have hl := lv_entry ([.ref q_j, .int x1, .int x2, .int x3, .int x4]) (n := 7) (Nat.le_of_ble_eq_true rfl)
  rw [lg_entry_eq]
  generalize (lg_sl ([.ref q_j, .int x1, .int x2, .int x3, .int x4]) ++ List.replicate (7 - (lg_sl ([.ref q_j, .int x1, .int x2, .int x3, .int x4])).length) Slot.unset).toArray = ls at hl ⊢
  replace hl : lv_has ls 7 [(0, .ref q_j), (1, .int x1), (2, .int x2), (3, .int x3), (4, .int x4)] := hl
  unfold m_Mo_nearest at hm
  refine lv_aload_n hx hb d_Mo_nearest_0 rfl (lv_at hl 0 rfl) ?_
  refine lv_iconst (v := (0 : Int32)) hx hb d_Mo_nearest_1 (by decide +kernel) ?_
  refine tp_put (v := .int (0 : Int32)) (C := R_Mo) (T := T_Mo) (WS' := [(q_j, .inr (7, [.ref q_ji, .int j_in, .ref q_jo, .int j_out, .ref q_jm, .int j_made, .ref q_jn, .ref q_jf, .int j_known, .int j_fat, .int (0 : Int32), .int j_told, .int j_at, .int j_end, .int j_fault, .int j_fp])), (q_ji, .inl (cB, 10000, .inl ji_f)), (q_jo, .inl (cB, 10000, .inl jo_f)), (q_jm, .inl (cB, 20000, .inl jm_f)), (q_jn, .inl (cI, 10001, .inl jn_f)), (q_jf, .inl (cI, 10001, .inl jf_f))]) hx hb hts fw_Mo ty_Mo ty_Mo_ok nm_Mo hown hw 0 rfl rfl 10 (by decide +kernel) (hts _ wd_344) rfl rfl rfl (Nat.le_of_ble_eq_true rfl) rfl d_Mo_nearest_2 (fun H locs hw => ?_)
  refine lv_iload_n hx hb d_Mo_nearest_5 rfl (lv_at hl 2 rfl) ?_
  refine lv_iconst (v := (1 : Int32)) hx hb d_Mo_nearest_6 (by decide +kernel) ?_
  refine lv_isub hx hb d_Mo_nearest_7 ?_
  refine lv_istore (lv' := [(5, .int (x2 - (1 : Int32))), (0, .ref q_j), (1, .int x1), (2, .int x2), (3, .int x3), (4, .int x4)]) hx hb d_Mo_nearest_8 hl (by decide +kernel) rfl (fun ls hl => ?_)
  exact w_Mo_nearest_10 hF2  N _ _ _ _ _ _ _ _ _ _ hm hw (lv_sub hl [1, 2, 3, 4, 5, 0] rfl)
end
abbrev rm_Mo_longest : Room := { frames := 1, cells := 0, slots := 0, locals := 24 }
abbrev ws_Mo_longest : List Cond := .code y_Mo_longest c_Mo_longest 6 none :: tpG
noncomputable def m_Mo_longest_10 (N : Nat) (ji_f : Nat → Int32) (rec10 : Int32 → Int32 → Int32 → Int32 → Int32 → Int32 → Option (Int32 × Int32)) (x1 : Int32) (x2 : Int32) (x3 : Int32) (x4 : Int32) (j_fat : Int32) (j_flong : Int32) : Option (Int32 × Int32) :=
  if x4 < x1 then
    some (j_fat, j_flong)
  else
    tp_b1 (m_Mo_alike N x4 x2 x3 ji_f) fun r2 =>
    if r2 < (4 : Int32) then
      rec10 x1 x2 x3 (x4 + (-1 : Int32)) j_fat j_flong
    else
      if r2 ≤ j_flong then
        rec10 x1 x2 x3 (x4 + (-1 : Int32)) j_fat j_flong
      else
        rec10 x1 x2 x3 (x4 + (-1 : Int32)) x4 r2
noncomputable def m_Mo_longest (N : Nat) (x1 : Int32) (x2 : Int32) (x3 : Int32) (j_fat : Int32) (j_flong : Int32) (ji_f : Nat → Int32) : Option (Int32 × Int32) :=
  tp_it6 (m_Mo_longest_10 N ji_f ) N x1 x2 x3 (x2 - (1 : Int32)) j_fat (0 : Int32)
section
variable {p : Program} {l : Launch} {e : Env} {s : State} {m : MethodId} {args : Array Value} {below : List Frame} {meth : Method} {c : Code} {A : Nat → Prop} {D : va_G} {cB cI : ClassId} {tM : Nat}
set_option maxHeartbeats 4000000 in
set_option maxRecDepth 100000 in
theorem w_Mo_longest_10 {q_j q_ji q_jo q_jm q_jn q_jf : Nat} {j_in : Int32} {j_out : Int32} {j_made : Int32} {j_known : Int32} {j_told : Int32} {j_at : Int32} {j_end : Int32} {j_fault : Int32} {j_fp : Int32} {ji_f : Nat → Int32} {jo_f : Nat → Int32} {jm_f : Nat → Int32} {jn_f : Nat → Int32} {jf_f : Nat → Int32} {N : Nat} {j_fat' : Int32} {j_flong' : Int32} (hF2 : tp_F p m c c_Mo_longest 6 s args tpG R_Mo meth none) : ∀ (n : Nat), ∀ (x1 : Int32) (x2 : Int32) (x3 : Int32) (x4 : Int32) (j_fat : Int32) (j_flong : Int32) (H : Heap) (locs : List Loc) (ls : Array Slot), tp_it6 (m_Mo_longest_10 N ji_f ) n x1 x2 x3 x4 j_fat j_flong = some (j_fat', j_flong') → tp_Wd D (tp_ty cB cI) tM A s H locs [(q_j, .inr (7, [.ref q_ji, .int j_in, .ref q_jo, .int j_out, .ref q_jm, .int j_made, .ref q_jn, .ref q_jf, .int j_known, .int j_fat, .int j_flong, .int j_told, .int j_at, .int j_end, .int j_fault, .int j_fp])), (q_ji, .inl (cB, 10000, .inl ji_f)), (q_jo, .inl (cB, 10000, .inl jo_f)), (q_jm, .inl (cB, 20000, .inl jm_f)), (q_jn, .inl (cI, 10001, .inl jn_f)), (q_jf, .inl (cI, 10001, .inl jf_f))] → lv_has ls 6 [(0, .ref q_j), (1, .int x1), (2, .int x2), (3, .int x3), (4, .int x4)] → W p l e rm_Mo_longest s m args below meth c H locs 0 0 (MQ below (tp_Qv (S := Unit) D A (fun _ => [(q_j, .inr (7, [.ref q_ji, .int j_in, .ref q_jo, .int j_out, .ref q_jm, .int j_made, .ref q_jn, .ref q_jf, .int j_known, .int j_fat', .int j_flong', .int j_told, .int j_at, .int j_end, .int j_fault, .int j_fp])), (q_ji, .inl (cB, 10000, .inl ji_f)), (q_jo, .inl (cB, 10000, .inl jo_f)), (q_jm, .inl (cB, 20000, .inl jm_f)), (q_jn, .inl (cI, 10001, .inl jn_f)), (q_jf, .inl (cI, 10001, .inl jf_f))])) args s 0 0 A) (F0 m 10 ls []) := by
  obtain ⟨hF, hr, hlocks⟩ := id hF2
  obtain ⟨hx, hb, hml, hown, hts⟩ := id hF
  intro n
  induction n with
  | zero => intro x1 x2 x3 x4 j_fat j_flong H locs ls hm; exact absurd hm (by simp [tp_it6])
  | succ n ih10 =>
    intro x1 x2 x3 x4 j_fat j_flong H locs ls hm hw hl
    replace hm : m_Mo_longest_10 N ji_f  (tp_it6 (m_Mo_longest_10 N ji_f ) n) x1 x2 x3 x4 j_fat j_flong = some (j_fat', j_flong') := hm
    unfold m_Mo_longest_10 at hm
    refine lv_iload hx hb d_Mo_longest_10 (lv_at hl 4 rfl) ?_
    refine lv_iload_n hx hb d_Mo_longest_12 rfl (lv_at hl 1 rfl) ?_
    refine lv_icmp_lt (tgt := 59) hx hb d_Mo_longest_13 (by decide +kernel) (fun hc1 => ?_) (fun hc1 => ?_)
    · replace hm := tp_it hc1 hm
      obtain ⟨rfl, rfl⟩ := tp_inj2 hm
      exact tp_vret () hx hb hr hlocks hw d_Mo_longest_59
    · replace hm := tp_if hc1 hm
      refine lv_aload_n hx hb d_Mo_longest_16 rfl (lv_at hl 0 rfl) ?_
      refine lv_iload hx hb d_Mo_longest_17 (lv_at hl 4 rfl) ?_
      refine lv_iload_n hx hb d_Mo_longest_19 rfl (lv_at hl 2 rfl) ?_
      refine lv_iload_n hx hb d_Mo_longest_20 rfl (lv_at hl 3 rfl) ?_
      obtain ⟨r2, hm3, hm⟩ := tp_b1_e hm
      refine tp_calli (wr := []) (WS' := [(q_j, .inr (7, [.ref q_ji, .int j_in, .ref q_jo, .int j_out, .ref q_jm, .int j_made, .ref q_jn, .ref q_jf, .int j_known, .int j_fat, .int j_flong, .int j_told, .int j_at, .int j_end, .int j_fault, .int j_fp])), (q_ji, .inl (cB, 10000, .inl ji_f)), (q_jo, .inl (cB, 10000, .inl jo_f)), (q_jm, .inl (cB, 20000, .inl jm_f)), (q_jn, .inl (cI, 10001, .inl jn_f)), (q_jf, .inl (cI, 10001, .inl jf_f))]) (va_runV (As := [.int x4, .int x2, .int x3]) (rest := []) hF (ct_Mo_alike (l := l) (D := D) (cB := cB) (cI := cI) (tM := tM) (q_j := q_j) (q_ji := q_ji) (q_jo := q_jo) (q_jm := q_jm) (q_jn := q_jn) (q_jf := q_jf) (j_in := j_in) (j_out := j_out) (j_made := j_made) (j_known := j_known) (j_fat := j_fat) (j_flong := j_flong) (j_told := j_told) (j_at := j_at) (j_end := j_end) (j_fault := j_fault) (j_fp := j_fp) (ji_f := ji_f) (jo_f := jo_f) (jm_f := jm_f) (jn_f := jn_f) (jf_f := jf_f) (x1 := x4) (x2 := x2) (x3 := x3) (N := N) (r := r2) hm3 _) (cwV 3 hts (tpG_V wd_346 wd_347 wd_348 wd_340 wd_345) rfl rfl rfl ⟨rfl, yd_Mo_alike⟩ ⟨Nat.le_of_ble_eq_true rfl, Nat.le_of_ble_eq_true rfl⟩) ⟨tp_blind, va_recv hw.1 hw.2.1 (ci := 7) (q0 := 0) rfl rfl, tp_pre hw [0, 1, 2, 3, 4, 5] rfl rfl⟩ rfl rfl hl.1 rfl (lv_room (Nat.le_of_ble_eq_true rfl)) d_Mo_longest_21 ⟨Nat.le_of_ble_eq_true rfl, Nat.le_of_ble_eq_true rfl⟩) hw [0, 1, 2, 3, 4, 5] [] [0, 1, 2, 3, 4, 5] rfl rfl rfl (by decide) rfl rfl (fun H locs hw => ?_)
      refine lv_istore (lv' := [(5, .int r2), (0, .ref q_j), (1, .int x1), (2, .int x2), (3, .int x3), (4, .int x4)]) hx hb d_Mo_longest_24 hl (by decide +kernel) rfl (fun ls hl => ?_)
      refine lv_iload hx hb d_Mo_longest_26 (lv_at hl 0 rfl) ?_
      refine lv_iconst (v := (4 : Int32)) hx hb d_Mo_longest_28 (by decide +kernel) ?_
      refine lv_icmp_lt (tgt := 53) hx hb d_Mo_longest_29 (by decide +kernel) (fun hc4 => ?_) (fun hc4 => ?_)
      · replace hm := tp_it hc4 hm
        refine lv_iinc (v := (x4 + (-1 : Int32))) (lv' := [(4, .int (x4 + (-1 : Int32))), (5, .int r2), (0, .ref q_j), (1, .int x1), (2, .int x2), (3, .int x3)]) hx hb d_Mo_longest_53 hl (k := 5) rfl rfl (by decide +kernel) rfl (fun ls hl => ?_)
        refine lv_goto (tgt := 10) hx hb d_Mo_longest_56 (by decide +kernel) ?_
        exact ih10 _ _ _ _ _ _ _ _ _ hm hw (lv_sub hl [2, 3, 4, 5, 0] rfl)
      · replace hm := tp_if hc4 hm
        refine lv_iload hx hb d_Mo_longest_32 (lv_at hl 0 rfl) ?_
        refine lv_aload_n hx hb d_Mo_longest_34 rfl (lv_at hl 1 rfl) ?_
        refine tp_get (v := .int j_flong) (C := R_Mo) (T := T_Mo) hx hb hts fw_Mo hown hw 0 rfl rfl 10 (by decide +kernel) (hts _ wd_344) rfl d_Mo_longest_35 ?_
        refine lv_icmp_le (tgt := 53) hx hb d_Mo_longest_38 (by decide +kernel) (fun hc5 => ?_) (fun hc5 => ?_)
        · replace hm := tp_it hc5 hm
          refine lv_iinc (v := (x4 + (-1 : Int32))) (lv' := [(4, .int (x4 + (-1 : Int32))), (5, .int r2), (0, .ref q_j), (1, .int x1), (2, .int x2), (3, .int x3)]) hx hb d_Mo_longest_53 hl (k := 5) rfl rfl (by decide +kernel) rfl (fun ls hl => ?_)
          refine lv_goto (tgt := 10) hx hb d_Mo_longest_56 (by decide +kernel) ?_
          exact ih10 _ _ _ _ _ _ _ _ _ hm hw (lv_sub hl [2, 3, 4, 5, 0] rfl)
        · replace hm := tp_if hc5 hm
          refine lv_aload_n hx hb d_Mo_longest_41 rfl (lv_at hl 1 rfl) ?_
          refine lv_iload hx hb d_Mo_longest_42 (lv_at hl 5 rfl) ?_
          refine tp_put (v := .int x4) (C := R_Mo) (T := T_Mo) (WS' := [(q_j, .inr (7, [.ref q_ji, .int j_in, .ref q_jo, .int j_out, .ref q_jm, .int j_made, .ref q_jn, .ref q_jf, .int j_known, .int x4, .int j_flong, .int j_told, .int j_at, .int j_end, .int j_fault, .int j_fp])), (q_ji, .inl (cB, 10000, .inl ji_f)), (q_jo, .inl (cB, 10000, .inl jo_f)), (q_jm, .inl (cB, 20000, .inl jm_f)), (q_jn, .inl (cI, 10001, .inl jn_f)), (q_jf, .inl (cI, 10001, .inl jf_f))]) hx hb hts fw_Mo ty_Mo ty_Mo_ok nm_Mo hown hw 0 rfl rfl 9 (by decide +kernel) (hts _ wd_349) rfl rfl rfl (Nat.le_of_ble_eq_true rfl) rfl d_Mo_longest_44 (fun H locs hw => ?_)
          refine lv_aload_n hx hb d_Mo_longest_47 rfl (lv_at hl 1 rfl) ?_
          refine lv_iload hx hb d_Mo_longest_48 (lv_at hl 0 rfl) ?_
          refine tp_put (v := .int r2) (C := R_Mo) (T := T_Mo) (WS' := [(q_j, .inr (7, [.ref q_ji, .int j_in, .ref q_jo, .int j_out, .ref q_jm, .int j_made, .ref q_jn, .ref q_jf, .int j_known, .int x4, .int r2, .int j_told, .int j_at, .int j_end, .int j_fault, .int j_fp])), (q_ji, .inl (cB, 10000, .inl ji_f)), (q_jo, .inl (cB, 10000, .inl jo_f)), (q_jm, .inl (cB, 20000, .inl jm_f)), (q_jn, .inl (cI, 10001, .inl jn_f)), (q_jf, .inl (cI, 10001, .inl jf_f))]) hx hb hts fw_Mo ty_Mo ty_Mo_ok nm_Mo hown hw 0 rfl rfl 10 (by decide +kernel) (hts _ wd_344) rfl rfl rfl (Nat.le_of_ble_eq_true rfl) rfl d_Mo_longest_50 (fun H locs hw => ?_)
          refine lv_iinc (v := (x4 + (-1 : Int32))) (lv' := [(4, .int (x4 + (-1 : Int32))), (5, .int r2), (0, .ref q_j), (1, .int x1), (2, .int x2), (3, .int x3)]) hx hb d_Mo_longest_53 hl (k := 5) rfl rfl (by decide +kernel) rfl (fun ls hl => ?_)
          refine lv_goto (tgt := 10) hx hb d_Mo_longest_56 (by decide +kernel) ?_
          exact ih10 _ _ _ _ _ _ _ _ _ hm hw (lv_sub hl [2, 3, 4, 5, 0] rfl)
set_option maxHeartbeats 4000000 in
set_option maxRecDepth 100000 in
theorem ct_Mo_longest {q_j q_ji q_jo q_jm q_jn q_jf : Nat} {j_in : Int32} {j_out : Int32} {j_made : Int32} {j_known : Int32} {j_fat : Int32} {j_flong : Int32} {j_told : Int32} {j_at : Int32} {j_end : Int32} {j_fault : Int32} {j_fp : Int32} {ji_f : Nat → Int32} {jo_f : Nat → Int32} {jm_f : Nat → Int32} {jn_f : Nat → Int32} {jf_f : Nat → Int32} {N : Nat} {x1 : Int32} {x2 : Int32} {x3 : Int32} {j_fat' : Int32} {j_flong' : Int32} (hm : m_Mo_longest N x1 x2 x3 j_fat j_flong ji_f = some (j_fat', j_flong')) (sz : Nat) : tp_Cv l y_Mo_longest ws_Mo_longest rm_Mo_longest D (tp_ty cB cI) tM [.ref q_j, .int x1, .int x2, .int x3] [(q_j, .inr (7, [.ref q_ji, .int j_in, .ref q_jo, .int j_out, .ref q_jm, .int j_made, .ref q_jn, .ref q_jf, .int j_known, .int j_fat, .int j_flong, .int j_told, .int j_at, .int j_end, .int j_fault, .int j_fp])), (q_ji, .inl (cB, 10000, .inl ji_f)), (q_jo, .inl (cB, 10000, .inl jo_f)), (q_jm, .inl (cB, 20000, .inl jm_f)), (q_jn, .inl (cI, 10001, .inl jn_f)), (q_jf, .inl (cI, 10001, .inl jf_f))] sz [(q_j, .inr (7, [.ref q_ji, .int j_in, .ref q_jo, .int j_out, .ref q_jm, .int j_made, .ref q_jn, .ref q_jf, .int j_known, .int j_fat', .int j_flong', .int j_told, .int j_at, .int j_end, .int j_fault, .int j_fp])), (q_ji, .inl (cB, 10000, .inl ji_f)), (q_jo, .inl (cB, 10000, .inl jo_f)), (q_jm, .inl (cB, 20000, .inl jm_f)), (q_jn, .inl (cI, 10001, .inl jn_f)), (q_jf, .inl (cI, 10001, .inl jf_f))] := by
  refine Met.ofW (cc := c_Mo_longest) (maxL := 6) (ret := none) (by decide) rfl ?_
  intro p e s m args below meth c s₁ B hml hv
  obtain ⟨rfl, hv⟩ := hv
  have hw := tp_entry hv
  generalize va_A [(q_j, .inr (7, [.ref q_ji, .int j_in, .ref q_jo, .int j_out, .ref q_jm, .int j_made, .ref q_jn, .ref q_jf, .int j_known, .int j_fat, .int j_flong, .int j_told, .int j_at, .int j_end, .int j_fault, .int j_fp])), (q_ji, .inl (cB, 10000, .inl ji_f)), (q_jo, .inl (cB, 10000, .inl jo_f)), (q_jm, .inl (cB, 20000, .inl jm_f)), (q_jn, .inl (cI, 10001, .inl jn_f)), (q_jf, .inl (cI, 10001, .inl jf_f))] sz = A at hw ⊢
  have hx := B.exec
  have hb := B.bytes
  have hr := B.returns
  have hts0 := atoms_spec (ws := ws_Mo_longest) B.pre
  have hts := fun w h => hts0 w (List.mem_cons_of_mem _ h)
  have hown : s.vm.findClass R_Mo = some m.cls := findClass_of_methodNamed B.named
  have hlocks := B.notSynchronized
  have hF : CallFix p m c c_Mo_longest 6 s _ tpG R_Mo := ⟨hx, hb, hml, hown, hts⟩
  have hF2 : tp_F p m c c_Mo_longest 6 s _ tpG R_Mo meth none := ⟨hF, hr, hlocks⟩
  have hl := lv_entry ([.ref q_j, .int x1, .int x2, .int x3]) (n := 6) (Nat.le_of_ble_eq_true rfl)
  rw [lg_entry_eq]
  generalize (lg_sl ([.ref q_j, .int x1, .int x2, .int x3]) ++ List.replicate (6 - (lg_sl ([.ref q_j, .int x1, .int x2, .int x3])).length) Slot.unset).toArray = ls at hl ⊢
  replace hl : lv_has ls 6 [(0, .ref q_j), (1, .int x1), (2, .int x2), (3, .int x3)] := hl
  unfold m_Mo_longest at hm
  refine lv_aload_n hx hb d_Mo_longest_0 rfl (lv_at hl 0 rfl) ?_
  refine lv_iconst (v := (0 : Int32)) hx hb d_Mo_longest_1 (by decide +kernel) ?_
  refine tp_put (v := .int (0 : Int32)) (C := R_Mo) (T := T_Mo) (WS' := [(q_j, .inr (7, [.ref q_ji, .int j_in, .ref q_jo, .int j_out, .ref q_jm, .int j_made, .ref q_jn, .ref q_jf, .int j_known, .int j_fat, .int (0 : Int32), .int j_told, .int j_at, .int j_end, .int j_fault, .int j_fp])), (q_ji, .inl (cB, 10000, .inl ji_f)), (q_jo, .inl (cB, 10000, .inl jo_f)), (q_jm, .inl (cB, 20000, .inl jm_f)), (q_jn, .inl (cI, 10001, .inl jn_f)), (q_jf, .inl (cI, 10001, .inl jf_f))]) hx hb hts fw_Mo ty_Mo ty_Mo_ok nm_Mo hown hw 0 rfl rfl 10 (by decide +kernel) (hts _ wd_344) rfl rfl rfl (Nat.le_of_ble_eq_true rfl) rfl d_Mo_longest_2 (fun H locs hw => ?_)
  refine lv_iload_n hx hb d_Mo_longest_5 rfl (lv_at hl 2 rfl) ?_
  refine lv_iconst (v := (1 : Int32)) hx hb d_Mo_longest_6 (by decide +kernel) ?_
  refine lv_isub hx hb d_Mo_longest_7 ?_
  refine lv_istore (lv' := [(4, .int (x2 - (1 : Int32))), (0, .ref q_j), (1, .int x1), (2, .int x2), (3, .int x3)]) hx hb d_Mo_longest_8 hl (by decide +kernel) rfl (fun ls hl => ?_)
  exact w_Mo_longest_10 hF2  N _ _ _ _ _ _ _ _ _ hm hw (lv_sub hl [1, 2, 3, 4, 0] rfl)
end
abbrev rm_Mo_match : Room := { frames := 2, cells := 0, slots := 0, locals := 50 }
abbrev ws_Mo_match : List Cond := .code y_Mo_match c_Mo_match 6 none :: tpG
noncomputable def m_Mo_match_75 (N : Nat) (ji_f : Nat → Int32) (x4 : Int32) (x5 : Int32) (j_fat : Int32) (j_flong : Int32) : Option (Int32 × Int32) :=
  if x4 = (3 : Int32) then
    if x5 ≤ j_flong then
      some (j_fat, j_flong)
    else
      some (j_fat, (0 : Int32))
  else
    some (j_fat, j_flong)
noncomputable def m_Mo_match_56 (N : Nat) (ji_f : Nat → Int32) (x1 : Int32) (x2 : Int32) (x3 : Int32) (x4 : Int32) (j_fat : Int32) (j_flong : Int32) : Option (Int32 × Int32) :=
  if x4 < (2 : Int32) then
    m_Mo_match_75 N ji_f  x4 j_flong j_fat j_flong
  else
    tp_b2 (m_Mo_longest N x1 x2 x3 j_fat j_flong ji_f) fun j_fat_16 j_flong_17 =>
    m_Mo_match_75 N ji_f  x4 j_flong j_fat_16 j_flong_17
noncomputable def m_Mo_match_41 (N : Nat) (ji_f : Nat → Int32) (x1 : Int32) (x2 : Int32) (x3 : Int32) (x4 : Int32) (j_fat : Int32) (j_flong : Int32) : Option (Int32 × Int32) :=
  if x4 = (3 : Int32) then
    tp_b2 (m_Mo_longest N x1 (x2 + (1 : Int32)) x3 j_fat j_flong ji_f) fun j_fat_12 j_flong_13 =>
    m_Mo_match_56 N ji_f  x1 x2 x3 x4 j_fat_12 j_flong_13
  else
    m_Mo_match_56 N ji_f  x1 x2 x3 x4 j_fat j_flong
noncomputable def m_Mo_match_33 (N : Nat) (ji_f : Nat → Int32) (x1 : Int32) (x2 : Int32) (x3 : Int32) (x4 : Int32) (j_fat : Int32) (j_flong : Int32) : Option (Int32 × Int32) :=
  tp_b2 (m_Mo_nearest N x1 x2 x3 (4 : Int32) j_fat j_flong ji_f) fun j_fat_8 j_flong_9 =>
  m_Mo_match_41 N ji_f  x1 x2 x3 x4 j_fat_8 j_flong_9
noncomputable def m_Mo_match_15 (N : Nat) (ji_f : Nat → Int32) (x1 : Int32) (x2 : Int32) (x3 : Int32) (x4 : Int32) (j_fat : Int32) (j_flong : Int32) : Option (Int32 × Int32) :=
  if x4 = 0 then
    m_Mo_match_33 N ji_f  x1 x2 x3 x4 j_fat j_flong
  else
    if x4 = (1 : Int32) then
      if j_flong = 0 then
        m_Mo_match_33 N ji_f  x1 x2 x3 x4 j_fat j_flong
      else
        m_Mo_match_41 N ji_f  x1 x2 x3 x4 j_fat j_flong
    else
      m_Mo_match_41 N ji_f  x1 x2 x3 x4 j_fat j_flong
noncomputable def m_Mo_match (N : Nat) (x1 : Int32) (x2 : Int32) (x3 : Int32) (x4 : Int32) (j_fat : Int32) (j_flong : Int32) (ji_f : Nat → Int32) : Option (Int32 × Int32) :=
  if x4 = (1 : Int32) then
    tp_b2 (m_Mo_nearest N x1 x2 x3 (8 : Int32) j_fat j_flong ji_f) fun j_fat_2 j_flong_3 =>
    m_Mo_match_15 N ji_f  x1 x2 x3 x4 j_fat_2 j_flong_3
  else
    m_Mo_match_15 N ji_f  x1 x2 x3 x4 j_fat j_flong
section
variable {p : Program} {l : Launch} {e : Env} {s : State} {m : MethodId} {args : Array Value} {below : List Frame} {meth : Method} {c : Code} {A : Nat → Prop} {D : va_G} {cB cI : ClassId} {tM : Nat}
set_option maxHeartbeats 4000000 in
set_option maxRecDepth 100000 in
theorem w_Mo_match_75 {q_j q_ji q_jo q_jm q_jn q_jf : Nat} {j_in : Int32} {j_out : Int32} {j_made : Int32} {j_known : Int32} {j_told : Int32} {j_at : Int32} {j_end : Int32} {j_fault : Int32} {j_fp : Int32} {ji_f : Nat → Int32} {jo_f : Nat → Int32} {jm_f : Nat → Int32} {jn_f : Nat → Int32} {jf_f : Nat → Int32} {N : Nat} {j_fat' : Int32} {j_flong' : Int32} (hF2 : tp_F p m c c_Mo_match 6 s args tpG R_Mo meth none) : ∀ (x4 : Int32) (x5 : Int32) (j_fat : Int32) (j_flong : Int32) (H : Heap) (locs : List Loc) (ls : Array Slot), m_Mo_match_75 N ji_f  x4 x5 j_fat j_flong = some (j_fat', j_flong') → tp_Wd D (tp_ty cB cI) tM A s H locs [(q_j, .inr (7, [.ref q_ji, .int j_in, .ref q_jo, .int j_out, .ref q_jm, .int j_made, .ref q_jn, .ref q_jf, .int j_known, .int j_fat, .int j_flong, .int j_told, .int j_at, .int j_end, .int j_fault, .int j_fp])), (q_ji, .inl (cB, 10000, .inl ji_f)), (q_jo, .inl (cB, 10000, .inl jo_f)), (q_jm, .inl (cB, 20000, .inl jm_f)), (q_jn, .inl (cI, 10001, .inl jn_f)), (q_jf, .inl (cI, 10001, .inl jf_f))] → lv_has ls 6 [(0, .ref q_j), (4, .int x4), (5, .int x5)] → W p l e rm_Mo_match s m args below meth c H locs 0 0 (MQ below (tp_Qv (S := Unit) D A (fun _ => [(q_j, .inr (7, [.ref q_ji, .int j_in, .ref q_jo, .int j_out, .ref q_jm, .int j_made, .ref q_jn, .ref q_jf, .int j_known, .int j_fat', .int j_flong', .int j_told, .int j_at, .int j_end, .int j_fault, .int j_fp])), (q_ji, .inl (cB, 10000, .inl ji_f)), (q_jo, .inl (cB, 10000, .inl jo_f)), (q_jm, .inl (cB, 20000, .inl jm_f)), (q_jn, .inl (cI, 10001, .inl jn_f)), (q_jf, .inl (cI, 10001, .inl jf_f))])) args s 0 0 A) (F0 m 75 ls []) := by
  obtain ⟨hF, hr, hlocks⟩ := id hF2
  obtain ⟨hx, hb, hml, hown, hts⟩ := id hF
  intro x4 x5 j_fat j_flong H locs ls hm hw hl
  unfold m_Mo_match_75 at hm
  refine lv_iload hx hb d_Mo_match_75 (lv_at hl 1 rfl) ?_
  refine lv_iconst (v := (3 : Int32)) hx hb d_Mo_match_77 (by decide +kernel) ?_
  refine lv_icmp_ne (tgt := 95) hx hb d_Mo_match_78 (by decide +kernel) (fun hc19 => ?_) (fun hc19 => ?_)
  · replace hm := tp_if hc19 hm
    obtain ⟨rfl, rfl⟩ := tp_inj2 hm
    exact tp_vret () hx hb hr hlocks hw d_Mo_match_95
  · replace hm := tp_it hc19 hm
    refine lv_iload hx hb d_Mo_match_81 (lv_at hl 2 rfl) ?_
    refine lv_aload_n hx hb d_Mo_match_83 rfl (lv_at hl 0 rfl) ?_
    refine tp_get (v := .int j_flong) (C := R_Mo) (T := T_Mo) hx hb hts fw_Mo hown hw 0 rfl rfl 10 (by decide +kernel) (hts _ wd_344) rfl d_Mo_match_84 ?_
    refine lv_icmp_le (tgt := 95) hx hb d_Mo_match_87 (by decide +kernel) (fun hc20 => ?_) (fun hc20 => ?_)
    · replace hm := tp_it hc20 hm
      obtain ⟨rfl, rfl⟩ := tp_inj2 hm
      exact tp_vret () hx hb hr hlocks hw d_Mo_match_95
    · replace hm := tp_if hc20 hm
      refine lv_aload_n hx hb d_Mo_match_90 rfl (lv_at hl 0 rfl) ?_
      refine lv_iconst (v := (0 : Int32)) hx hb d_Mo_match_91 (by decide +kernel) ?_
      refine tp_put (v := .int (0 : Int32)) (C := R_Mo) (T := T_Mo) (WS' := [(q_j, .inr (7, [.ref q_ji, .int j_in, .ref q_jo, .int j_out, .ref q_jm, .int j_made, .ref q_jn, .ref q_jf, .int j_known, .int j_fat, .int (0 : Int32), .int j_told, .int j_at, .int j_end, .int j_fault, .int j_fp])), (q_ji, .inl (cB, 10000, .inl ji_f)), (q_jo, .inl (cB, 10000, .inl jo_f)), (q_jm, .inl (cB, 20000, .inl jm_f)), (q_jn, .inl (cI, 10001, .inl jn_f)), (q_jf, .inl (cI, 10001, .inl jf_f))]) hx hb hts fw_Mo ty_Mo ty_Mo_ok nm_Mo hown hw 0 rfl rfl 10 (by decide +kernel) (hts _ wd_344) rfl rfl rfl (Nat.le_of_ble_eq_true rfl) rfl d_Mo_match_92 (fun H locs hw => ?_)
      obtain ⟨rfl, rfl⟩ := tp_inj2 hm
      exact tp_vret () hx hb hr hlocks hw d_Mo_match_95
set_option maxHeartbeats 4000000 in
set_option maxRecDepth 100000 in
theorem w_Mo_match_56 {q_j q_ji q_jo q_jm q_jn q_jf : Nat} {j_in : Int32} {j_out : Int32} {j_made : Int32} {j_known : Int32} {j_told : Int32} {j_at : Int32} {j_end : Int32} {j_fault : Int32} {j_fp : Int32} {ji_f : Nat → Int32} {jo_f : Nat → Int32} {jm_f : Nat → Int32} {jn_f : Nat → Int32} {jf_f : Nat → Int32} {N : Nat} {j_fat' : Int32} {j_flong' : Int32} (hF2 : tp_F p m c c_Mo_match 6 s args tpG R_Mo meth none) : ∀ (x1 : Int32) (x2 : Int32) (x3 : Int32) (x4 : Int32) (j_fat : Int32) (j_flong : Int32) (H : Heap) (locs : List Loc) (ls : Array Slot), m_Mo_match_56 N ji_f  x1 x2 x3 x4 j_fat j_flong = some (j_fat', j_flong') → tp_Wd D (tp_ty cB cI) tM A s H locs [(q_j, .inr (7, [.ref q_ji, .int j_in, .ref q_jo, .int j_out, .ref q_jm, .int j_made, .ref q_jn, .ref q_jf, .int j_known, .int j_fat, .int j_flong, .int j_told, .int j_at, .int j_end, .int j_fault, .int j_fp])), (q_ji, .inl (cB, 10000, .inl ji_f)), (q_jo, .inl (cB, 10000, .inl jo_f)), (q_jm, .inl (cB, 20000, .inl jm_f)), (q_jn, .inl (cI, 10001, .inl jn_f)), (q_jf, .inl (cI, 10001, .inl jf_f))] → lv_has ls 6 [(0, .ref q_j), (1, .int x1), (2, .int x2), (3, .int x3), (4, .int x4)] → W p l e rm_Mo_match s m args below meth c H locs 0 0 (MQ below (tp_Qv (S := Unit) D A (fun _ => [(q_j, .inr (7, [.ref q_ji, .int j_in, .ref q_jo, .int j_out, .ref q_jm, .int j_made, .ref q_jn, .ref q_jf, .int j_known, .int j_fat', .int j_flong', .int j_told, .int j_at, .int j_end, .int j_fault, .int j_fp])), (q_ji, .inl (cB, 10000, .inl ji_f)), (q_jo, .inl (cB, 10000, .inl jo_f)), (q_jm, .inl (cB, 20000, .inl jm_f)), (q_jn, .inl (cI, 10001, .inl jn_f)), (q_jf, .inl (cI, 10001, .inl jf_f))])) args s 0 0 A) (F0 m 56 ls []) := by
  obtain ⟨hF, hr, hlocks⟩ := id hF2
  obtain ⟨hx, hb, hml, hown, hts⟩ := id hF
  intro x1 x2 x3 x4 j_fat j_flong H locs ls hm hw hl
  unfold m_Mo_match_56 at hm
  refine lv_aload_n hx hb d_Mo_match_56 rfl (lv_at hl 0 rfl) ?_
  refine tp_get (v := .int j_flong) (C := R_Mo) (T := T_Mo) hx hb hts fw_Mo hown hw 0 rfl rfl 10 (by decide +kernel) (hts _ wd_344) rfl d_Mo_match_57 ?_
  refine lv_istore (lv' := [(5, .int j_flong), (0, .ref q_j), (1, .int x1), (2, .int x2), (3, .int x3), (4, .int x4)]) hx hb d_Mo_match_60 hl (by decide +kernel) rfl (fun ls hl => ?_)
  refine lv_iload hx hb d_Mo_match_62 (lv_at hl 5 rfl) ?_
  refine lv_iconst (v := (2 : Int32)) hx hb d_Mo_match_64 (by decide +kernel) ?_
  refine lv_icmp_lt (tgt := 75) hx hb d_Mo_match_65 (by decide +kernel) (fun hc15 => ?_) (fun hc15 => ?_)
  · replace hm := tp_it hc15 hm
    exact w_Mo_match_75 hF2  _ _ _ _ _ _ _ hm hw (lv_sub hl [1, 5, 0] rfl)
  · replace hm := tp_if hc15 hm
    refine lv_aload_n hx hb d_Mo_match_68 rfl (lv_at hl 1 rfl) ?_
    refine lv_iload_n hx hb d_Mo_match_69 rfl (lv_at hl 2 rfl) ?_
    refine lv_iload_n hx hb d_Mo_match_70 rfl (lv_at hl 3 rfl) ?_
    refine lv_iload_n hx hb d_Mo_match_71 rfl (lv_at hl 4 rfl) ?_
    obtain ⟨j_fat_16, j_flong_17, hm18, hm⟩ := tp_b2_e hm
    refine tp_callv (wr := []) (WS' := [(q_j, .inr (7, [.ref q_ji, .int j_in, .ref q_jo, .int j_out, .ref q_jm, .int j_made, .ref q_jn, .ref q_jf, .int j_known, .int j_fat_16, .int j_flong_17, .int j_told, .int j_at, .int j_end, .int j_fault, .int j_fp])), (q_ji, .inl (cB, 10000, .inl ji_f)), (q_jo, .inl (cB, 10000, .inl jo_f)), (q_jm, .inl (cB, 20000, .inl jm_f)), (q_jn, .inl (cI, 10001, .inl jn_f)), (q_jf, .inl (cI, 10001, .inl jf_f))]) (va_runV (As := [.int x1, .int x2, .int x3]) (rest := []) hF (ct_Mo_longest (l := l) (D := D) (cB := cB) (cI := cI) (tM := tM) (q_j := q_j) (q_ji := q_ji) (q_jo := q_jo) (q_jm := q_jm) (q_jn := q_jn) (q_jf := q_jf) (j_in := j_in) (j_out := j_out) (j_made := j_made) (j_known := j_known) (j_fat := j_fat) (j_flong := j_flong) (j_told := j_told) (j_at := j_at) (j_end := j_end) (j_fault := j_fault) (j_fp := j_fp) (ji_f := ji_f) (jo_f := jo_f) (jm_f := jm_f) (jn_f := jn_f) (jf_f := jf_f) (x1 := x1) (x2 := x2) (x3 := x3) (N := N) (j_fat' := j_fat_16) (j_flong' := j_flong_17) hm18 _) (cwV 3 hts (tpG_V wd_355 wd_356 wd_357 wd_340 wd_354) rfl rfl rfl ⟨rfl, yd_Mo_longest⟩ ⟨Nat.le_of_ble_eq_true rfl, Nat.le_of_ble_eq_true rfl⟩) ⟨tp_blind, va_recv hw.1 hw.2.1 (ci := 7) (q0 := 0) rfl rfl, tp_pre hw [0, 1, 2, 3, 4, 5] rfl rfl⟩ rfl rfl hl.1 rfl (lv_room (Nat.le_of_ble_eq_true rfl)) d_Mo_match_72 ⟨Nat.le_of_ble_eq_true rfl, Nat.le_of_ble_eq_true rfl⟩) hw [0, 1, 2, 3, 4, 5] [] [0, 1, 2, 3, 4, 5] rfl rfl rfl (by decide) rfl rfl (fun H locs hw => ?_)
    exact w_Mo_match_75 hF2  _ _ _ _ _ _ _ hm hw (lv_sub hl [1, 5, 0] rfl)
set_option maxHeartbeats 4000000 in
set_option maxRecDepth 100000 in
theorem w_Mo_match_41 {q_j q_ji q_jo q_jm q_jn q_jf : Nat} {j_in : Int32} {j_out : Int32} {j_made : Int32} {j_known : Int32} {j_told : Int32} {j_at : Int32} {j_end : Int32} {j_fault : Int32} {j_fp : Int32} {ji_f : Nat → Int32} {jo_f : Nat → Int32} {jm_f : Nat → Int32} {jn_f : Nat → Int32} {jf_f : Nat → Int32} {N : Nat} {j_fat' : Int32} {j_flong' : Int32} (hF2 : tp_F p m c c_Mo_match 6 s args tpG R_Mo meth none) : ∀ (x1 : Int32) (x2 : Int32) (x3 : Int32) (x4 : Int32) (j_fat : Int32) (j_flong : Int32) (H : Heap) (locs : List Loc) (ls : Array Slot), m_Mo_match_41 N ji_f  x1 x2 x3 x4 j_fat j_flong = some (j_fat', j_flong') → tp_Wd D (tp_ty cB cI) tM A s H locs [(q_j, .inr (7, [.ref q_ji, .int j_in, .ref q_jo, .int j_out, .ref q_jm, .int j_made, .ref q_jn, .ref q_jf, .int j_known, .int j_fat, .int j_flong, .int j_told, .int j_at, .int j_end, .int j_fault, .int j_fp])), (q_ji, .inl (cB, 10000, .inl ji_f)), (q_jo, .inl (cB, 10000, .inl jo_f)), (q_jm, .inl (cB, 20000, .inl jm_f)), (q_jn, .inl (cI, 10001, .inl jn_f)), (q_jf, .inl (cI, 10001, .inl jf_f))] → lv_has ls 6 [(0, .ref q_j), (1, .int x1), (2, .int x2), (3, .int x3), (4, .int x4)] → W p l e rm_Mo_match s m args below meth c H locs 0 0 (MQ below (tp_Qv (S := Unit) D A (fun _ => [(q_j, .inr (7, [.ref q_ji, .int j_in, .ref q_jo, .int j_out, .ref q_jm, .int j_made, .ref q_jn, .ref q_jf, .int j_known, .int j_fat', .int j_flong', .int j_told, .int j_at, .int j_end, .int j_fault, .int j_fp])), (q_ji, .inl (cB, 10000, .inl ji_f)), (q_jo, .inl (cB, 10000, .inl jo_f)), (q_jm, .inl (cB, 20000, .inl jm_f)), (q_jn, .inl (cI, 10001, .inl jn_f)), (q_jf, .inl (cI, 10001, .inl jf_f))])) args s 0 0 A) (F0 m 41 ls []) := by
  obtain ⟨hF, hr, hlocks⟩ := id hF2
  obtain ⟨hx, hb, hml, hown, hts⟩ := id hF
  intro x1 x2 x3 x4 j_fat j_flong H locs ls hm hw hl
  unfold m_Mo_match_41 at hm
  refine lv_iload hx hb d_Mo_match_41 (lv_at hl 4 rfl) ?_
  refine lv_iconst (v := (3 : Int32)) hx hb d_Mo_match_43 (by decide +kernel) ?_
  refine lv_icmp_ne (tgt := 56) hx hb d_Mo_match_44 (by decide +kernel) (fun hc11 => ?_) (fun hc11 => ?_)
  · replace hm := tp_if hc11 hm
    exact w_Mo_match_56 hF2  _ _ _ _ _ _ _ _ _ hm hw (lv_sub hl [0, 1, 2, 3, 4] rfl)
  · replace hm := tp_it hc11 hm
    refine lv_aload_n hx hb d_Mo_match_47 rfl (lv_at hl 0 rfl) ?_
    refine lv_iload_n hx hb d_Mo_match_48 rfl (lv_at hl 1 rfl) ?_
    refine lv_iload_n hx hb d_Mo_match_49 rfl (lv_at hl 2 rfl) ?_
    refine lv_iconst (v := (1 : Int32)) hx hb d_Mo_match_50 (by decide +kernel) ?_
    refine lv_iadd hx hb d_Mo_match_51 ?_
    refine lv_iload_n hx hb d_Mo_match_52 rfl (lv_at hl 3 rfl) ?_
    obtain ⟨j_fat_12, j_flong_13, hm14, hm⟩ := tp_b2_e hm
    refine tp_callv (wr := []) (WS' := [(q_j, .inr (7, [.ref q_ji, .int j_in, .ref q_jo, .int j_out, .ref q_jm, .int j_made, .ref q_jn, .ref q_jf, .int j_known, .int j_fat_12, .int j_flong_13, .int j_told, .int j_at, .int j_end, .int j_fault, .int j_fp])), (q_ji, .inl (cB, 10000, .inl ji_f)), (q_jo, .inl (cB, 10000, .inl jo_f)), (q_jm, .inl (cB, 20000, .inl jm_f)), (q_jn, .inl (cI, 10001, .inl jn_f)), (q_jf, .inl (cI, 10001, .inl jf_f))]) (va_runV (As := [.int x1, .int (x2 + (1 : Int32)), .int x3]) (rest := []) hF (ct_Mo_longest (l := l) (D := D) (cB := cB) (cI := cI) (tM := tM) (q_j := q_j) (q_ji := q_ji) (q_jo := q_jo) (q_jm := q_jm) (q_jn := q_jn) (q_jf := q_jf) (j_in := j_in) (j_out := j_out) (j_made := j_made) (j_known := j_known) (j_fat := j_fat) (j_flong := j_flong) (j_told := j_told) (j_at := j_at) (j_end := j_end) (j_fault := j_fault) (j_fp := j_fp) (ji_f := ji_f) (jo_f := jo_f) (jm_f := jm_f) (jn_f := jn_f) (jf_f := jf_f) (x1 := x1) (x2 := (x2 + (1 : Int32))) (x3 := x3) (N := N) (j_fat' := j_fat_12) (j_flong' := j_flong_13) hm14 _) (cwV 3 hts (tpG_V wd_355 wd_356 wd_357 wd_340 wd_354) rfl rfl rfl ⟨rfl, yd_Mo_longest⟩ ⟨Nat.le_of_ble_eq_true rfl, Nat.le_of_ble_eq_true rfl⟩) ⟨tp_blind, va_recv hw.1 hw.2.1 (ci := 7) (q0 := 0) rfl rfl, tp_pre hw [0, 1, 2, 3, 4, 5] rfl rfl⟩ rfl rfl hl.1 rfl (lv_room (Nat.le_of_ble_eq_true rfl)) d_Mo_match_53 ⟨Nat.le_of_ble_eq_true rfl, Nat.le_of_ble_eq_true rfl⟩) hw [0, 1, 2, 3, 4, 5] [] [0, 1, 2, 3, 4, 5] rfl rfl rfl (by decide) rfl rfl (fun H locs hw => ?_)
    exact w_Mo_match_56 hF2  _ _ _ _ _ _ _ _ _ hm hw (lv_sub hl [0, 1, 2, 3, 4] rfl)
set_option maxHeartbeats 4000000 in
set_option maxRecDepth 100000 in
theorem w_Mo_match_33 {q_j q_ji q_jo q_jm q_jn q_jf : Nat} {j_in : Int32} {j_out : Int32} {j_made : Int32} {j_known : Int32} {j_told : Int32} {j_at : Int32} {j_end : Int32} {j_fault : Int32} {j_fp : Int32} {ji_f : Nat → Int32} {jo_f : Nat → Int32} {jm_f : Nat → Int32} {jn_f : Nat → Int32} {jf_f : Nat → Int32} {N : Nat} {j_fat' : Int32} {j_flong' : Int32} (hF2 : tp_F p m c c_Mo_match 6 s args tpG R_Mo meth none) : ∀ (x1 : Int32) (x2 : Int32) (x3 : Int32) (x4 : Int32) (j_fat : Int32) (j_flong : Int32) (H : Heap) (locs : List Loc) (ls : Array Slot), m_Mo_match_33 N ji_f  x1 x2 x3 x4 j_fat j_flong = some (j_fat', j_flong') → tp_Wd D (tp_ty cB cI) tM A s H locs [(q_j, .inr (7, [.ref q_ji, .int j_in, .ref q_jo, .int j_out, .ref q_jm, .int j_made, .ref q_jn, .ref q_jf, .int j_known, .int j_fat, .int j_flong, .int j_told, .int j_at, .int j_end, .int j_fault, .int j_fp])), (q_ji, .inl (cB, 10000, .inl ji_f)), (q_jo, .inl (cB, 10000, .inl jo_f)), (q_jm, .inl (cB, 20000, .inl jm_f)), (q_jn, .inl (cI, 10001, .inl jn_f)), (q_jf, .inl (cI, 10001, .inl jf_f))] → lv_has ls 6 [(0, .ref q_j), (1, .int x1), (2, .int x2), (3, .int x3), (4, .int x4)] → W p l e rm_Mo_match s m args below meth c H locs 0 0 (MQ below (tp_Qv (S := Unit) D A (fun _ => [(q_j, .inr (7, [.ref q_ji, .int j_in, .ref q_jo, .int j_out, .ref q_jm, .int j_made, .ref q_jn, .ref q_jf, .int j_known, .int j_fat', .int j_flong', .int j_told, .int j_at, .int j_end, .int j_fault, .int j_fp])), (q_ji, .inl (cB, 10000, .inl ji_f)), (q_jo, .inl (cB, 10000, .inl jo_f)), (q_jm, .inl (cB, 20000, .inl jm_f)), (q_jn, .inl (cI, 10001, .inl jn_f)), (q_jf, .inl (cI, 10001, .inl jf_f))])) args s 0 0 A) (F0 m 33 ls []) := by
  obtain ⟨hF, hr, hlocks⟩ := id hF2
  obtain ⟨hx, hb, hml, hown, hts⟩ := id hF
  intro x1 x2 x3 x4 j_fat j_flong H locs ls hm hw hl
  unfold m_Mo_match_33 at hm
  refine lv_aload_n hx hb d_Mo_match_33 rfl (lv_at hl 0 rfl) ?_
  refine lv_iload_n hx hb d_Mo_match_34 rfl (lv_at hl 1 rfl) ?_
  refine lv_iload_n hx hb d_Mo_match_35 rfl (lv_at hl 2 rfl) ?_
  refine lv_iload_n hx hb d_Mo_match_36 rfl (lv_at hl 3 rfl) ?_
  refine lv_iconst (v := (4 : Int32)) hx hb d_Mo_match_37 (by decide +kernel) ?_
  obtain ⟨j_fat_8, j_flong_9, hm10, hm⟩ := tp_b2_e hm
  refine tp_callv (wr := []) (WS' := [(q_j, .inr (7, [.ref q_ji, .int j_in, .ref q_jo, .int j_out, .ref q_jm, .int j_made, .ref q_jn, .ref q_jf, .int j_known, .int j_fat_8, .int j_flong_9, .int j_told, .int j_at, .int j_end, .int j_fault, .int j_fp])), (q_ji, .inl (cB, 10000, .inl ji_f)), (q_jo, .inl (cB, 10000, .inl jo_f)), (q_jm, .inl (cB, 20000, .inl jm_f)), (q_jn, .inl (cI, 10001, .inl jn_f)), (q_jf, .inl (cI, 10001, .inl jf_f))]) (va_runV (As := [.int x1, .int x2, .int x3, .int (4 : Int32)]) (rest := []) hF (ct_Mo_nearest (l := l) (D := D) (cB := cB) (cI := cI) (tM := tM) (q_j := q_j) (q_ji := q_ji) (q_jo := q_jo) (q_jm := q_jm) (q_jn := q_jn) (q_jf := q_jf) (j_in := j_in) (j_out := j_out) (j_made := j_made) (j_known := j_known) (j_fat := j_fat) (j_flong := j_flong) (j_told := j_told) (j_at := j_at) (j_end := j_end) (j_fault := j_fault) (j_fp := j_fp) (ji_f := ji_f) (jo_f := jo_f) (jm_f := jm_f) (jn_f := jn_f) (jf_f := jf_f) (x1 := x1) (x2 := x2) (x3 := x3) (x4 := (4 : Int32)) (N := N) (j_fat' := j_fat_8) (j_flong' := j_flong_9) hm10 _) (cwV 4 hts (tpG_V wd_351 wd_352 wd_353 wd_340 wd_350) rfl rfl rfl ⟨rfl, yd_Mo_nearest⟩ ⟨Nat.le_of_ble_eq_true rfl, Nat.le_of_ble_eq_true rfl⟩) ⟨tp_blind, va_recv hw.1 hw.2.1 (ci := 7) (q0 := 0) rfl rfl, tp_pre hw [0, 1, 2, 3, 4, 5] rfl rfl⟩ rfl rfl hl.1 rfl (lv_room (Nat.le_of_ble_eq_true rfl)) d_Mo_match_38 ⟨Nat.le_of_ble_eq_true rfl, Nat.le_of_ble_eq_true rfl⟩) hw [0, 1, 2, 3, 4, 5] [] [0, 1, 2, 3, 4, 5] rfl rfl rfl (by decide) rfl rfl (fun H locs hw => ?_)
  exact w_Mo_match_41 hF2  _ _ _ _ _ _ _ _ _ hm hw (lv_sub hl [0, 1, 2, 3, 4] rfl)
set_option maxHeartbeats 4000000 in
set_option maxRecDepth 100000 in
theorem w_Mo_match_15 {q_j q_ji q_jo q_jm q_jn q_jf : Nat} {j_in : Int32} {j_out : Int32} {j_made : Int32} {j_known : Int32} {j_told : Int32} {j_at : Int32} {j_end : Int32} {j_fault : Int32} {j_fp : Int32} {ji_f : Nat → Int32} {jo_f : Nat → Int32} {jm_f : Nat → Int32} {jn_f : Nat → Int32} {jf_f : Nat → Int32} {N : Nat} {j_fat' : Int32} {j_flong' : Int32} (hF2 : tp_F p m c c_Mo_match 6 s args tpG R_Mo meth none) : ∀ (x1 : Int32) (x2 : Int32) (x3 : Int32) (x4 : Int32) (j_fat : Int32) (j_flong : Int32) (H : Heap) (locs : List Loc) (ls : Array Slot), m_Mo_match_15 N ji_f  x1 x2 x3 x4 j_fat j_flong = some (j_fat', j_flong') → tp_Wd D (tp_ty cB cI) tM A s H locs [(q_j, .inr (7, [.ref q_ji, .int j_in, .ref q_jo, .int j_out, .ref q_jm, .int j_made, .ref q_jn, .ref q_jf, .int j_known, .int j_fat, .int j_flong, .int j_told, .int j_at, .int j_end, .int j_fault, .int j_fp])), (q_ji, .inl (cB, 10000, .inl ji_f)), (q_jo, .inl (cB, 10000, .inl jo_f)), (q_jm, .inl (cB, 20000, .inl jm_f)), (q_jn, .inl (cI, 10001, .inl jn_f)), (q_jf, .inl (cI, 10001, .inl jf_f))] → lv_has ls 6 [(0, .ref q_j), (1, .int x1), (2, .int x2), (3, .int x3), (4, .int x4)] → W p l e rm_Mo_match s m args below meth c H locs 0 0 (MQ below (tp_Qv (S := Unit) D A (fun _ => [(q_j, .inr (7, [.ref q_ji, .int j_in, .ref q_jo, .int j_out, .ref q_jm, .int j_made, .ref q_jn, .ref q_jf, .int j_known, .int j_fat', .int j_flong', .int j_told, .int j_at, .int j_end, .int j_fault, .int j_fp])), (q_ji, .inl (cB, 10000, .inl ji_f)), (q_jo, .inl (cB, 10000, .inl jo_f)), (q_jm, .inl (cB, 20000, .inl jm_f)), (q_jn, .inl (cI, 10001, .inl jn_f)), (q_jf, .inl (cI, 10001, .inl jf_f))])) args s 0 0 A) (F0 m 15 ls []) := by
  obtain ⟨hF, hr, hlocks⟩ := id hF2
  obtain ⟨hx, hb, hml, hown, hts⟩ := id hF
  intro x1 x2 x3 x4 j_fat j_flong H locs ls hm hw hl
  unfold m_Mo_match_15 at hm
  refine lv_iload hx hb d_Mo_match_15 (lv_at hl 4 rfl) ?_
  refine lv_if_eq (tgt := 33) hx hb d_Mo_match_17 (by decide +kernel) (fun hc5 => ?_) (fun hc5 => ?_)
  · replace hm := tp_it hc5 hm
    exact w_Mo_match_33 hF2  _ _ _ _ _ _ _ _ _ hm hw (lv_sub hl [0, 1, 2, 3, 4] rfl)
  · replace hm := tp_if hc5 hm
    refine lv_iload hx hb d_Mo_match_20 (lv_at hl 4 rfl) ?_
    refine lv_iconst (v := (1 : Int32)) hx hb d_Mo_match_22 (by decide +kernel) ?_
    refine lv_icmp_ne (tgt := 41) hx hb d_Mo_match_23 (by decide +kernel) (fun hc6 => ?_) (fun hc6 => ?_)
    · replace hm := tp_if hc6 hm
      exact w_Mo_match_41 hF2  _ _ _ _ _ _ _ _ _ hm hw (lv_sub hl [0, 1, 2, 3, 4] rfl)
    · replace hm := tp_it hc6 hm
      refine lv_aload_n hx hb d_Mo_match_26 rfl (lv_at hl 0 rfl) ?_
      refine tp_get (v := .int j_flong) (C := R_Mo) (T := T_Mo) hx hb hts fw_Mo hown hw 0 rfl rfl 10 (by decide +kernel) (hts _ wd_344) rfl d_Mo_match_27 ?_
      refine lv_if_ne (tgt := 41) hx hb d_Mo_match_30 (by decide +kernel) (fun hc7 => ?_) (fun hc7 => ?_)
      · replace hm := tp_if hc7 hm
        exact w_Mo_match_41 hF2  _ _ _ _ _ _ _ _ _ hm hw (lv_sub hl [0, 1, 2, 3, 4] rfl)
      · replace hm := tp_it hc7 hm
        exact w_Mo_match_33 hF2  _ _ _ _ _ _ _ _ _ hm hw (lv_sub hl [0, 1, 2, 3, 4] rfl)
set_option maxHeartbeats 4000000 in
set_option maxRecDepth 100000 in
theorem ct_Mo_match {q_j q_ji q_jo q_jm q_jn q_jf : Nat} {j_in : Int32} {j_out : Int32} {j_made : Int32} {j_known : Int32} {j_fat : Int32} {j_flong : Int32} {j_told : Int32} {j_at : Int32} {j_end : Int32} {j_fault : Int32} {j_fp : Int32} {ji_f : Nat → Int32} {jo_f : Nat → Int32} {jm_f : Nat → Int32} {jn_f : Nat → Int32} {jf_f : Nat → Int32} {N : Nat} {x1 : Int32} {x2 : Int32} {x3 : Int32} {x4 : Int32} {j_fat' : Int32} {j_flong' : Int32} (hm : m_Mo_match N x1 x2 x3 x4 j_fat j_flong ji_f = some (j_fat', j_flong')) (sz : Nat) : tp_Cv l y_Mo_match ws_Mo_match rm_Mo_match D (tp_ty cB cI) tM [.ref q_j, .int x1, .int x2, .int x3, .int x4] [(q_j, .inr (7, [.ref q_ji, .int j_in, .ref q_jo, .int j_out, .ref q_jm, .int j_made, .ref q_jn, .ref q_jf, .int j_known, .int j_fat, .int j_flong, .int j_told, .int j_at, .int j_end, .int j_fault, .int j_fp])), (q_ji, .inl (cB, 10000, .inl ji_f)), (q_jo, .inl (cB, 10000, .inl jo_f)), (q_jm, .inl (cB, 20000, .inl jm_f)), (q_jn, .inl (cI, 10001, .inl jn_f)), (q_jf, .inl (cI, 10001, .inl jf_f))] sz [(q_j, .inr (7, [.ref q_ji, .int j_in, .ref q_jo, .int j_out, .ref q_jm, .int j_made, .ref q_jn, .ref q_jf, .int j_known, .int j_fat', .int j_flong', .int j_told, .int j_at, .int j_end, .int j_fault, .int j_fp])), (q_ji, .inl (cB, 10000, .inl ji_f)), (q_jo, .inl (cB, 10000, .inl jo_f)), (q_jm, .inl (cB, 20000, .inl jm_f)), (q_jn, .inl (cI, 10001, .inl jn_f)), (q_jf, .inl (cI, 10001, .inl jf_f))] := by
  refine Met.ofW (cc := c_Mo_match) (maxL := 6) (ret := none) (by decide) rfl ?_
  intro p e s m args below meth c s₁ B hml hv
  obtain ⟨rfl, hv⟩ := hv
  have hw := tp_entry hv
  generalize va_A [(q_j, .inr (7, [.ref q_ji, .int j_in, .ref q_jo, .int j_out, .ref q_jm, .int j_made, .ref q_jn, .ref q_jf, .int j_known, .int j_fat, .int j_flong, .int j_told, .int j_at, .int j_end, .int j_fault, .int j_fp])), (q_ji, .inl (cB, 10000, .inl ji_f)), (q_jo, .inl (cB, 10000, .inl jo_f)), (q_jm, .inl (cB, 20000, .inl jm_f)), (q_jn, .inl (cI, 10001, .inl jn_f)), (q_jf, .inl (cI, 10001, .inl jf_f))] sz = A at hw ⊢
  have hx := B.exec
  have hb := B.bytes
  have hr := B.returns
  have hts0 := atoms_spec (ws := ws_Mo_match) B.pre
  have hts := fun w h => hts0 w (List.mem_cons_of_mem _ h)
  have hown : s.vm.findClass R_Mo = some m.cls := findClass_of_methodNamed B.named
  have hlocks := B.notSynchronized
  have hF : CallFix p m c c_Mo_match 6 s _ tpG R_Mo := ⟨hx, hb, hml, hown, hts⟩
  have hF2 : tp_F p m c c_Mo_match 6 s _ tpG R_Mo meth none := ⟨hF, hr, hlocks⟩
  have hl := lv_entry ([.ref q_j, .int x1, .int x2, .int x3, .int x4]) (n := 6) (Nat.le_of_ble_eq_true rfl)
  rw [lg_entry_eq]
  generalize (lg_sl ([.ref q_j, .int x1, .int x2, .int x3, .int x4]) ++ List.replicate (6 - (lg_sl ([.ref q_j, .int x1, .int x2, .int x3, .int x4])).length) Slot.unset).toArray = ls at hl ⊢
  replace hl : lv_has ls 6 [(0, .ref q_j), (1, .int x1), (2, .int x2), (3, .int x3), (4, .int x4)] := hl
  unfold m_Mo_match at hm
  refine lv_iload hx hb d_Mo_match_0 (lv_at hl 4 rfl) ?_
  refine lv_iconst (v := (1 : Int32)) hx hb d_Mo_match_2 (by decide +kernel) ?_
  refine lv_icmp_ne (tgt := 15) hx hb d_Mo_match_3 (by decide +kernel) (fun hc1 => ?_) (fun hc1 => ?_)
  · replace hm := tp_if hc1 hm
    exact w_Mo_match_15 hF2  _ _ _ _ _ _ _ _ _ hm hw (lv_sub hl [0, 1, 2, 3, 4] rfl)
  · replace hm := tp_it hc1 hm
    refine lv_aload_n hx hb d_Mo_match_6 rfl (lv_at hl 0 rfl) ?_
    refine lv_iload_n hx hb d_Mo_match_7 rfl (lv_at hl 1 rfl) ?_
    refine lv_iload_n hx hb d_Mo_match_8 rfl (lv_at hl 2 rfl) ?_
    refine lv_iload_n hx hb d_Mo_match_9 rfl (lv_at hl 3 rfl) ?_
    refine lv_bipush (v := (8 : Int32)) hx hb d_Mo_match_10 (by decide +kernel) ?_
    obtain ⟨j_fat_2, j_flong_3, hm4, hm⟩ := tp_b2_e hm
    refine tp_callv (wr := []) (WS' := [(q_j, .inr (7, [.ref q_ji, .int j_in, .ref q_jo, .int j_out, .ref q_jm, .int j_made, .ref q_jn, .ref q_jf, .int j_known, .int j_fat_2, .int j_flong_3, .int j_told, .int j_at, .int j_end, .int j_fault, .int j_fp])), (q_ji, .inl (cB, 10000, .inl ji_f)), (q_jo, .inl (cB, 10000, .inl jo_f)), (q_jm, .inl (cB, 20000, .inl jm_f)), (q_jn, .inl (cI, 10001, .inl jn_f)), (q_jf, .inl (cI, 10001, .inl jf_f))]) (va_runV (As := [.int x1, .int x2, .int x3, .int (8 : Int32)]) (rest := []) hF (ct_Mo_nearest (l := l) (D := D) (cB := cB) (cI := cI) (tM := tM) (q_j := q_j) (q_ji := q_ji) (q_jo := q_jo) (q_jm := q_jm) (q_jn := q_jn) (q_jf := q_jf) (j_in := j_in) (j_out := j_out) (j_made := j_made) (j_known := j_known) (j_fat := j_fat) (j_flong := j_flong) (j_told := j_told) (j_at := j_at) (j_end := j_end) (j_fault := j_fault) (j_fp := j_fp) (ji_f := ji_f) (jo_f := jo_f) (jm_f := jm_f) (jn_f := jn_f) (jf_f := jf_f) (x1 := x1) (x2 := x2) (x3 := x3) (x4 := (8 : Int32)) (N := N) (j_fat' := j_fat_2) (j_flong' := j_flong_3) hm4 _) (cwV 4 hts (tpG_V wd_351 wd_352 wd_353 wd_340 wd_350) rfl rfl rfl ⟨rfl, yd_Mo_nearest⟩ ⟨Nat.le_of_ble_eq_true rfl, Nat.le_of_ble_eq_true rfl⟩) ⟨tp_blind, va_recv hw.1 hw.2.1 (ci := 7) (q0 := 0) rfl rfl, tp_pre hw [0, 1, 2, 3, 4, 5] rfl rfl⟩ rfl rfl hl.1 rfl (lv_room (Nat.le_of_ble_eq_true rfl)) d_Mo_match_12 ⟨Nat.le_of_ble_eq_true rfl, Nat.le_of_ble_eq_true rfl⟩) hw [0, 1, 2, 3, 4, 5] [] [0, 1, 2, 3, 4, 5] rfl rfl rfl (by decide) rfl rfl (fun H locs hw => ?_)
    exact w_Mo_match_15 hF2  _ _ _ _ _ _ _ _ _ hm hw (lv_sub hl [0, 1, 2, 3, 4] rfl)
end
abbrev rm_Mo_bytesFor : Room := { frames := 0, cells := 0, slots := 0, locals := 0 }
abbrev ws_Mo_bytesFor : List Cond := .code y_Mo_bytesFor c_Mo_bytesFor 2 (some .int) :: tpG
noncomputable def m_Mo_bytesFor (x0 : Int32) (x1 : Int32) : Option (Int32) :=
  if x1 = 0 then
    some ((3 : Int32))
  else
    if x0 < (4 : Int32) then
      some ((3 : Int32))
    else
      if (11 : Int32) < x0 then
        some ((3 : Int32))
      else
        some ((2 : Int32))
section
variable {p : Program} {l : Launch} {e : Env} {s : State} {m : MethodId} {args : Array Value} {below : List Frame} {meth : Method} {c : Code} {A : Nat → Prop} {D : va_G} {cB cI : ClassId} {tM : Nat}
set_option maxHeartbeats 4000000 in
set_option maxRecDepth 100000 in
theorem ct_Mo_bytesFor {x0 : Int32} {x1 : Int32} {r : Int32} (hm : m_Mo_bytesFor x0 x1 = some (r)) (sz : Nat) : tp_Ci l y_Mo_bytesFor ws_Mo_bytesFor rm_Mo_bytesFor D (tp_ty cB cI) tM [.int x0, .int x1] [] sz r [] := by
  refine Met.ofW (cc := c_Mo_bytesFor) (maxL := 2) (ret := (some .int)) (by decide) rfl ?_
  intro p e s m args below meth c s₁ B hml hv
  obtain ⟨rfl, hv⟩ := hv
  have hw := tp_entry hv
  generalize va_A [] sz = A at hw ⊢
  have hx := B.exec
  have hb := B.bytes
  have hr := B.returns
  have hts0 := atoms_spec (ws := ws_Mo_bytesFor) B.pre
  have hts := fun w h => hts0 w (List.mem_cons_of_mem _ h)
  have hown : s.vm.findClass R_Mo = some m.cls := findClass_of_methodNamed B.named
  have hlocks := B.notSynchronized
  have hF : CallFix p m c c_Mo_bytesFor 2 s _ tpG R_Mo := ⟨hx, hb, hml, hown, hts⟩
  have hF2 : tp_F p m c c_Mo_bytesFor 2 s _ tpG R_Mo meth (some .int) := ⟨hF, hr, hlocks⟩
  have hl := lv_entry ([.int x0, .int x1]) (n := 2) (Nat.le_of_ble_eq_true rfl)
  rw [lg_entry_eq]
  generalize (lg_sl ([.int x0, .int x1]) ++ List.replicate (2 - (lg_sl ([.int x0, .int x1])).length) Slot.unset).toArray = ls at hl ⊢
  replace hl : lv_has ls 2 [(0, .int x0), (1, .int x1)] := hl
  unfold m_Mo_bytesFor at hm
  refine lv_iload_n hx hb d_Mo_bytesFor_0 rfl (lv_at hl 1 rfl) ?_
  refine lv_if_eq (tgt := 19) hx hb d_Mo_bytesFor_1 (by decide +kernel) (fun hc1 => ?_) (fun hc1 => ?_)
  · replace hm := tp_it hc1 hm
    refine lv_iconst (v := (3 : Int32)) hx hb d_Mo_bytesFor_19 (by decide +kernel) ?_
    obtain rfl := tp_inj1 hm
    exact tp_iret hx hb hr hlocks hw d_Mo_bytesFor_20
  · replace hm := tp_if hc1 hm
    refine lv_iload_n hx hb d_Mo_bytesFor_4 rfl (lv_at hl 0 rfl) ?_
    refine lv_iconst (v := (4 : Int32)) hx hb d_Mo_bytesFor_5 (by decide +kernel) ?_
    refine lv_icmp_lt (tgt := 19) hx hb d_Mo_bytesFor_6 (by decide +kernel) (fun hc2 => ?_) (fun hc2 => ?_)
    · replace hm := tp_it hc2 hm
      refine lv_iconst (v := (3 : Int32)) hx hb d_Mo_bytesFor_19 (by decide +kernel) ?_
      obtain rfl := tp_inj1 hm
      exact tp_iret hx hb hr hlocks hw d_Mo_bytesFor_20
    · replace hm := tp_if hc2 hm
      refine lv_iload_n hx hb d_Mo_bytesFor_9 rfl (lv_at hl 0 rfl) ?_
      refine lv_bipush (v := (11 : Int32)) hx hb d_Mo_bytesFor_10 (by decide +kernel) ?_
      refine lv_icmp_gt (tgt := 19) hx hb d_Mo_bytesFor_12 (by decide +kernel) (fun hc3 => ?_) (fun hc3 => ?_)
      · replace hm := tp_it hc3 hm
        refine lv_iconst (v := (3 : Int32)) hx hb d_Mo_bytesFor_19 (by decide +kernel) ?_
        obtain rfl := tp_inj1 hm
        exact tp_iret hx hb hr hlocks hw d_Mo_bytesFor_20
      · replace hm := tp_if hc3 hm
        refine lv_iconst (v := (2 : Int32)) hx hb d_Mo_bytesFor_15 (by decide +kernel) ?_
        refine lv_goto (tgt := 20) hx hb d_Mo_bytesFor_16 (by decide +kernel) ?_
        obtain rfl := tp_inj1 hm
        exact tp_iret hx hb hr hlocks hw d_Mo_bytesFor_20
end
abbrev rm_Mo_fewest : Room := { frames := 0, cells := 0, slots := 0, locals := 0 }
abbrev ws_Mo_fewest : List Cond := .code y_Mo_fewest c_Mo_fewest 3 (some .int) :: tpG
noncomputable def m_Mo_fewest (x1 : Int32) (x2 : Int32) (jn_f : Nat → Int32) (jf_f : Nat → Int32) : Option (Int32) :=
  if x2 = 0 then
    tp_gd (tp_inb x1 10001) <|
    some ((jf_f (Int32.toNatClampNeg x1)))
  else
    tp_gd (tp_inb x1 10001) <|
    some ((jn_f (Int32.toNatClampNeg x1)))
section
variable {p : Program} {l : Launch} {e : Env} {s : State} {m : MethodId} {args : Array Value} {below : List Frame} {meth : Method} {c : Code} {A : Nat → Prop} {D : va_G} {cB cI : ClassId} {tM : Nat}
set_option maxHeartbeats 4000000 in
set_option maxRecDepth 100000 in
theorem ct_Mo_fewest {q_j q_ji q_jo q_jm q_jn q_jf : Nat} {j_in : Int32} {j_out : Int32} {j_made : Int32} {j_known : Int32} {j_fat : Int32} {j_flong : Int32} {j_told : Int32} {j_at : Int32} {j_end : Int32} {j_fault : Int32} {j_fp : Int32} {ji_f : Nat → Int32} {jo_f : Nat → Int32} {jm_f : Nat → Int32} {jn_f : Nat → Int32} {jf_f : Nat → Int32} {x1 : Int32} {x2 : Int32} {r : Int32} (hm : m_Mo_fewest x1 x2 jn_f jf_f = some (r)) (sz : Nat) : tp_Ci l y_Mo_fewest ws_Mo_fewest rm_Mo_fewest D (tp_ty cB cI) tM [.ref q_j, .int x1, .int x2] [(q_j, .inr (7, [.ref q_ji, .int j_in, .ref q_jo, .int j_out, .ref q_jm, .int j_made, .ref q_jn, .ref q_jf, .int j_known, .int j_fat, .int j_flong, .int j_told, .int j_at, .int j_end, .int j_fault, .int j_fp])), (q_ji, .inl (cB, 10000, .inl ji_f)), (q_jo, .inl (cB, 10000, .inl jo_f)), (q_jm, .inl (cB, 20000, .inl jm_f)), (q_jn, .inl (cI, 10001, .inl jn_f)), (q_jf, .inl (cI, 10001, .inl jf_f))] sz r [(q_j, .inr (7, [.ref q_ji, .int j_in, .ref q_jo, .int j_out, .ref q_jm, .int j_made, .ref q_jn, .ref q_jf, .int j_known, .int j_fat, .int j_flong, .int j_told, .int j_at, .int j_end, .int j_fault, .int j_fp])), (q_ji, .inl (cB, 10000, .inl ji_f)), (q_jo, .inl (cB, 10000, .inl jo_f)), (q_jm, .inl (cB, 20000, .inl jm_f)), (q_jn, .inl (cI, 10001, .inl jn_f)), (q_jf, .inl (cI, 10001, .inl jf_f))] := by
  refine Met.ofW (cc := c_Mo_fewest) (maxL := 3) (ret := (some .int)) (by decide) rfl ?_
  intro p e s m args below meth c s₁ B hml hv
  obtain ⟨rfl, hv⟩ := hv
  have hw := tp_entry hv
  generalize va_A [(q_j, .inr (7, [.ref q_ji, .int j_in, .ref q_jo, .int j_out, .ref q_jm, .int j_made, .ref q_jn, .ref q_jf, .int j_known, .int j_fat, .int j_flong, .int j_told, .int j_at, .int j_end, .int j_fault, .int j_fp])), (q_ji, .inl (cB, 10000, .inl ji_f)), (q_jo, .inl (cB, 10000, .inl jo_f)), (q_jm, .inl (cB, 20000, .inl jm_f)), (q_jn, .inl (cI, 10001, .inl jn_f)), (q_jf, .inl (cI, 10001, .inl jf_f))] sz = A at hw ⊢
  have hx := B.exec
  have hb := B.bytes
  have hr := B.returns
  have hts0 := atoms_spec (ws := ws_Mo_fewest) B.pre
  have hts := fun w h => hts0 w (List.mem_cons_of_mem _ h)
  have hown : s.vm.findClass R_Mo = some m.cls := findClass_of_methodNamed B.named
  have hlocks := B.notSynchronized
  have hF : CallFix p m c c_Mo_fewest 3 s _ tpG R_Mo := ⟨hx, hb, hml, hown, hts⟩
  have hF2 : tp_F p m c c_Mo_fewest 3 s _ tpG R_Mo meth (some .int) := ⟨hF, hr, hlocks⟩
  have hl := lv_entry ([.ref q_j, .int x1, .int x2]) (n := 3) (Nat.le_of_ble_eq_true rfl)
  rw [lg_entry_eq]
  generalize (lg_sl ([.ref q_j, .int x1, .int x2]) ++ List.replicate (3 - (lg_sl ([.ref q_j, .int x1, .int x2])).length) Slot.unset).toArray = ls at hl ⊢
  replace hl : lv_has ls 3 [(0, .ref q_j), (1, .int x1), (2, .int x2)] := hl
  unfold m_Mo_fewest at hm
  refine lv_iload_n hx hb d_Mo_fewest_0 rfl (lv_at hl 2 rfl) ?_
  refine lv_if_eq (tgt := 13) hx hb d_Mo_fewest_1 (by decide +kernel) (fun hc1 => ?_) (fun hc1 => ?_)
  · replace hm := tp_it hc1 hm
    refine lv_aload_n hx hb d_Mo_fewest_13 rfl (lv_at hl 0 rfl) ?_
    refine tp_get (v := .ref q_jf) (C := R_Mo) (T := T_Mo) hx hb hts fw_Mo hown hw 0 rfl rfl 7 (by decide +kernel) (hts _ wd_358) rfl d_Mo_fewest_14 ?_
    refine lv_iload_n hx hb d_Mo_fewest_17 rfl (lv_at hl 1 rfl) ?_
    obtain ⟨hi2, hm⟩ := tp_gd_e hm
    refine tp_iald hx hb hw 5 1 rfl rfl hi2 d_Mo_fewest_18 ?_
    obtain rfl := tp_inj1 hm
    exact tp_iret hx hb hr hlocks hw d_Mo_fewest_19
  · replace hm := tp_if hc1 hm
    refine lv_aload_n hx hb d_Mo_fewest_4 rfl (lv_at hl 0 rfl) ?_
    refine tp_get (v := .ref q_jn) (C := R_Mo) (T := T_Mo) hx hb hts fw_Mo hown hw 0 rfl rfl 6 (by decide +kernel) (hts _ wd_359) rfl d_Mo_fewest_5 ?_
    refine lv_iload_n hx hb d_Mo_fewest_8 rfl (lv_at hl 1 rfl) ?_
    obtain ⟨hi3, hm⟩ := tp_gd_e hm
    refine tp_iald hx hb hw 4 1 rfl rfl hi3 d_Mo_fewest_9 ?_
    refine lv_goto (tgt := 19) hx hb d_Mo_fewest_10 (by decide +kernel) ?_
    obtain rfl := tp_inj1 hm
    exact tp_iret hx hb hr hlocks hw d_Mo_fewest_19
end
abbrev rm_Mo_tried : Room := { frames := 1, cells := 0, slots := 0, locals := 22 }
abbrev ws_Mo_tried : List Cond := .code y_Mo_tried c_Mo_tried 4 (some .int) :: tpG
noncomputable def m_Mo_tried (x1 : Int32) (x2 : Int32) (x3 : Int32) (jn_f : Nat → Int32) (jf_f : Nat → Int32) : Option (Int32) :=
  tp_b1 (m_Mo_bytesFor x2 x3) fun r1 =>
  tp_b1 (m_Mo_fewest (x1 - x2) x3 jn_f jf_f) fun r3 =>
  some ((r1 + r3))
section
variable {p : Program} {l : Launch} {e : Env} {s : State} {m : MethodId} {args : Array Value} {below : List Frame} {meth : Method} {c : Code} {A : Nat → Prop} {D : va_G} {cB cI : ClassId} {tM : Nat}
set_option maxHeartbeats 4000000 in
set_option maxRecDepth 100000 in
theorem ct_Mo_tried {q_j q_ji q_jo q_jm q_jn q_jf : Nat} {j_in : Int32} {j_out : Int32} {j_made : Int32} {j_known : Int32} {j_fat : Int32} {j_flong : Int32} {j_told : Int32} {j_at : Int32} {j_end : Int32} {j_fault : Int32} {j_fp : Int32} {ji_f : Nat → Int32} {jo_f : Nat → Int32} {jm_f : Nat → Int32} {jn_f : Nat → Int32} {jf_f : Nat → Int32} {x1 : Int32} {x2 : Int32} {x3 : Int32} {r : Int32} (hm : m_Mo_tried x1 x2 x3 jn_f jf_f = some (r)) (sz : Nat) : tp_Ci l y_Mo_tried ws_Mo_tried rm_Mo_tried D (tp_ty cB cI) tM [.ref q_j, .int x1, .int x2, .int x3] [(q_j, .inr (7, [.ref q_ji, .int j_in, .ref q_jo, .int j_out, .ref q_jm, .int j_made, .ref q_jn, .ref q_jf, .int j_known, .int j_fat, .int j_flong, .int j_told, .int j_at, .int j_end, .int j_fault, .int j_fp])), (q_ji, .inl (cB, 10000, .inl ji_f)), (q_jo, .inl (cB, 10000, .inl jo_f)), (q_jm, .inl (cB, 20000, .inl jm_f)), (q_jn, .inl (cI, 10001, .inl jn_f)), (q_jf, .inl (cI, 10001, .inl jf_f))] sz r [(q_j, .inr (7, [.ref q_ji, .int j_in, .ref q_jo, .int j_out, .ref q_jm, .int j_made, .ref q_jn, .ref q_jf, .int j_known, .int j_fat, .int j_flong, .int j_told, .int j_at, .int j_end, .int j_fault, .int j_fp])), (q_ji, .inl (cB, 10000, .inl ji_f)), (q_jo, .inl (cB, 10000, .inl jo_f)), (q_jm, .inl (cB, 20000, .inl jm_f)), (q_jn, .inl (cI, 10001, .inl jn_f)), (q_jf, .inl (cI, 10001, .inl jf_f))] := by
  refine Met.ofW (cc := c_Mo_tried) (maxL := 4) (ret := (some .int)) (by decide) rfl ?_
  intro p e s m args below meth c s₁ B hml hv
  obtain ⟨rfl, hv⟩ := hv
  have hw := tp_entry hv
  generalize va_A [(q_j, .inr (7, [.ref q_ji, .int j_in, .ref q_jo, .int j_out, .ref q_jm, .int j_made, .ref q_jn, .ref q_jf, .int j_known, .int j_fat, .int j_flong, .int j_told, .int j_at, .int j_end, .int j_fault, .int j_fp])), (q_ji, .inl (cB, 10000, .inl ji_f)), (q_jo, .inl (cB, 10000, .inl jo_f)), (q_jm, .inl (cB, 20000, .inl jm_f)), (q_jn, .inl (cI, 10001, .inl jn_f)), (q_jf, .inl (cI, 10001, .inl jf_f))] sz = A at hw ⊢
  have hx := B.exec
  have hb := B.bytes
  have hr := B.returns
  have hts0 := atoms_spec (ws := ws_Mo_tried) B.pre
  have hts := fun w h => hts0 w (List.mem_cons_of_mem _ h)
  have hown : s.vm.findClass R_Mo = some m.cls := findClass_of_methodNamed B.named
  have hlocks := B.notSynchronized
  have hF : CallFix p m c c_Mo_tried 4 s _ tpG R_Mo := ⟨hx, hb, hml, hown, hts⟩
  have hF2 : tp_F p m c c_Mo_tried 4 s _ tpG R_Mo meth (some .int) := ⟨hF, hr, hlocks⟩
  have hl := lv_entry ([.ref q_j, .int x1, .int x2, .int x3]) (n := 4) (Nat.le_of_ble_eq_true rfl)
  rw [lg_entry_eq]
  generalize (lg_sl ([.ref q_j, .int x1, .int x2, .int x3]) ++ List.replicate (4 - (lg_sl ([.ref q_j, .int x1, .int x2, .int x3])).length) Slot.unset).toArray = ls at hl ⊢
  replace hl : lv_has ls 4 [(0, .ref q_j), (1, .int x1), (2, .int x2), (3, .int x3)] := hl
  unfold m_Mo_tried at hm
  refine lv_iload_n hx hb d_Mo_tried_0 rfl (lv_at hl 2 rfl) ?_
  refine lv_iload_n hx hb d_Mo_tried_1 rfl (lv_at hl 3 rfl) ?_
  obtain ⟨r1, hm2, hm⟩ := tp_b1_e hm
  refine tp_calli (wr := [(q_j, .inr (7, [.ref q_ji, .int j_in, .ref q_jo, .int j_out, .ref q_jm, .int j_made, .ref q_jn, .ref q_jf, .int j_known, .int j_fat, .int j_flong, .int j_told, .int j_at, .int j_end, .int j_fault, .int j_fp])), (q_ji, .inl (cB, 10000, .inl ji_f)), (q_jo, .inl (cB, 10000, .inl jo_f)), (q_jm, .inl (cB, 20000, .inl jm_f)), (q_jn, .inl (cI, 10001, .inl jn_f)), (q_jf, .inl (cI, 10001, .inl jf_f))]) (WS' := [(q_j, .inr (7, [.ref q_ji, .int j_in, .ref q_jo, .int j_out, .ref q_jm, .int j_made, .ref q_jn, .ref q_jf, .int j_known, .int j_fat, .int j_flong, .int j_told, .int j_at, .int j_end, .int j_fault, .int j_fp])), (q_ji, .inl (cB, 10000, .inl ji_f)), (q_jo, .inl (cB, 10000, .inl jo_f)), (q_jm, .inl (cB, 20000, .inl jm_f)), (q_jn, .inl (cI, 10001, .inl jn_f)), (q_jf, .inl (cI, 10001, .inl jf_f))]) (va_runS (As := [.int x2, .int x3]) (rest := []) hF (ct_Mo_bytesFor (l := l) (D := D) (cB := cB) (cI := cI) (tM := tM) (x0 := x2) (x1 := x3) (r := r1) hm2 _) (va_cwS 2 hts (tpG_S wd_361 wd_362 wd_340 wd_360) rfl rfl rfl yd_Mo_bytesFor ⟨Nat.le_of_ble_eq_true rfl, Nat.le_of_ble_eq_true rfl⟩) ⟨tp_blind, tp_pre hw [] rfl rfl⟩ rfl rfl hl.1 rfl (lv_room (Nat.le_of_ble_eq_true rfl)) d_Mo_tried_2 ⟨Nat.le_of_ble_eq_true rfl, Nat.le_of_ble_eq_true rfl⟩) hw [] [0, 1, 2, 3, 4, 5] [0, 1, 2, 3, 4, 5] rfl rfl rfl (by decide) rfl rfl (fun H locs hw => ?_)
  refine lv_aload_n hx hb d_Mo_tried_5 rfl (lv_at hl 0 rfl) ?_
  refine lv_iload_n hx hb d_Mo_tried_6 rfl (lv_at hl 1 rfl) ?_
  refine lv_iload_n hx hb d_Mo_tried_7 rfl (lv_at hl 2 rfl) ?_
  refine lv_isub hx hb d_Mo_tried_8 ?_
  refine lv_iload_n hx hb d_Mo_tried_9 rfl (lv_at hl 3 rfl) ?_
  obtain ⟨r3, hm4, hm⟩ := tp_b1_e hm
  refine tp_calli (wr := []) (WS' := [(q_j, .inr (7, [.ref q_ji, .int j_in, .ref q_jo, .int j_out, .ref q_jm, .int j_made, .ref q_jn, .ref q_jf, .int j_known, .int j_fat, .int j_flong, .int j_told, .int j_at, .int j_end, .int j_fault, .int j_fp])), (q_ji, .inl (cB, 10000, .inl ji_f)), (q_jo, .inl (cB, 10000, .inl jo_f)), (q_jm, .inl (cB, 20000, .inl jm_f)), (q_jn, .inl (cI, 10001, .inl jn_f)), (q_jf, .inl (cI, 10001, .inl jf_f))]) (va_runV (As := [.int (x1 - x2), .int x3]) (rest := [.int r1]) hF (ct_Mo_fewest (l := l) (D := D) (cB := cB) (cI := cI) (tM := tM) (q_j := q_j) (q_ji := q_ji) (q_jo := q_jo) (q_jm := q_jm) (q_jn := q_jn) (q_jf := q_jf) (j_in := j_in) (j_out := j_out) (j_made := j_made) (j_known := j_known) (j_fat := j_fat) (j_flong := j_flong) (j_told := j_told) (j_at := j_at) (j_end := j_end) (j_fault := j_fault) (j_fp := j_fp) (ji_f := ji_f) (jo_f := jo_f) (jm_f := jm_f) (jn_f := jn_f) (jf_f := jf_f) (x1 := (x1 - x2)) (x2 := x3) (r := r3) hm4 _) (cwV 2 hts (tpG_V wd_364 wd_365 wd_366 wd_340 wd_363) rfl rfl rfl ⟨rfl, yd_Mo_fewest⟩ ⟨Nat.le_of_ble_eq_true rfl, Nat.le_of_ble_eq_true rfl⟩) ⟨tp_blind, va_recv hw.1 hw.2.1 (ci := 7) (q0 := 0) rfl rfl, tp_pre hw [0, 1, 2, 3, 4, 5] rfl rfl⟩ rfl rfl hl.1 rfl (lv_room (Nat.le_of_ble_eq_true rfl)) d_Mo_tried_10 ⟨Nat.le_of_ble_eq_true rfl, Nat.le_of_ble_eq_true rfl⟩) hw [0, 1, 2, 3, 4, 5] [] [0, 1, 2, 3, 4, 5] rfl rfl rfl (by decide) rfl rfl (fun H locs hw => ?_)
  refine lv_iadd hx hb d_Mo_tried_13 ?_
  obtain rfl := tp_inj1 hm
  exact tp_iret hx hb hr hlocks hw d_Mo_tried_14
end
abbrev rm_Mo_know : Room := { frames := 2, cells := 0, slots := 0, locals := 45 }
abbrev ws_Mo_know : List Cond := .code y_Mo_know c_Mo_know 4 none :: tpG
noncomputable def m_Mo_know_70 (N : Nat) (rec7 : Int32 → Int32 → Int32 → (Nat → Int32) → (Nat → Int32) → Option (Int32 × (Nat → Int32) × (Nat → Int32))) (rec30 : Int32 → Int32 → Int32 → Int32 → (Nat → Int32) → (Nat → Int32) → Option (Int32 × (Nat → Int32) × (Nat → Int32))) (x1 : Int32) (x2 : Int32) (x3 : Int32) (j_known : Int32) (jn_f : Nat → Int32) (jf_f : Nat → Int32) : Option (Int32 × (Nat → Int32) × (Nat → Int32)) :=
  tp_b1 (m_Mo_tried x2 x3 (0 : Int32) jn_f jf_f) fun r13 =>
  tp_gd (tp_inb x2 10001) <|
  if (jf_f (Int32.toNatClampNeg x2)) ≤ r13 then
    rec30 x1 x2 (x3 + (1 : Int32)) j_known jn_f jf_f
  else
    tp_b1 (m_Mo_tried x2 x3 (0 : Int32) jn_f jf_f) fun r17 =>
    tp_gd (tp_inb x2 10001) <|
    rec30 x1 x2 (x3 + (1 : Int32)) j_known jn_f (upd jf_f (Int32.toNatClampNeg x2) r17)
noncomputable def m_Mo_know_30 (N : Nat) (rec7 : Int32 → Int32 → Int32 → (Nat → Int32) → (Nat → Int32) → Option (Int32 × (Nat → Int32) × (Nat → Int32))) (rec30 : Int32 → Int32 → Int32 → Int32 → (Nat → Int32) → (Nat → Int32) → Option (Int32 × (Nat → Int32) × (Nat → Int32))) (x1 : Int32) (x2 : Int32) (x3 : Int32) (j_known : Int32) (jn_f : Nat → Int32) (jf_f : Nat → Int32) : Option (Int32 × (Nat → Int32) × (Nat → Int32)) :=
  if (64 : Int32) < x3 then
    rec7 x1 (x2 + (1 : Int32)) x2 jn_f jf_f
  else
    if x2 < x3 then
      rec7 x1 (x2 + (1 : Int32)) x2 jn_f jf_f
    else
      tp_b1 (m_Mo_tried x2 x3 (1 : Int32) jn_f jf_f) fun r6 =>
      tp_gd (tp_inb x2 10001) <|
      if (jn_f (Int32.toNatClampNeg x2)) ≤ r6 then
        m_Mo_know_70 N rec7 rec30 x1 x2 x3 j_known jn_f jf_f
      else
        tp_b1 (m_Mo_tried x2 x3 (1 : Int32) jn_f jf_f) fun r10 =>
        tp_gd (tp_inb x2 10001) <|
        m_Mo_know_70 N rec7 rec30 x1 x2 x3 j_known (upd jn_f (Int32.toNatClampNeg x2) r10) jf_f
noncomputable def m_Mo_know_7 (N : Nat) (rec7 : Int32 → Int32 → Int32 → (Nat → Int32) → (Nat → Int32) → Option (Int32 × (Nat → Int32) × (Nat → Int32))) (x1 : Int32) (x2 : Int32) (j_known : Int32) (jn_f : Nat → Int32) (jf_f : Nat → Int32) : Option (Int32 × (Nat → Int32) × (Nat → Int32)) :=
  if x1 < x2 then
    some (j_known, jn_f, jf_f)
  else
    tp_gd (tp_inb x2 10001) <|
    tp_gd (tp_inb x2 10001) <|
    tp_it6 (m_Mo_know_30 N rec7) N x1 x2 (1 : Int32) j_known (upd jn_f (Int32.toNatClampNeg x2) (2147483647 : Int32)) (upd jf_f (Int32.toNatClampNeg x2) (2147483647 : Int32))
noncomputable def m_Mo_know (N : Nat) (x1 : Int32) (j_known : Int32) (jn_f : Nat → Int32) (jf_f : Nat → Int32) : Option (Int32 × (Nat → Int32) × (Nat → Int32)) :=
  tp_it5 (m_Mo_know_7 N ) N x1 (j_known + (1 : Int32)) j_known jn_f jf_f
section
variable {p : Program} {l : Launch} {e : Env} {s : State} {m : MethodId} {args : Array Value} {below : List Frame} {meth : Method} {c : Code} {A : Nat → Prop} {D : va_G} {cB cI : ClassId} {tM : Nat}
set_option maxHeartbeats 4000000 in
set_option maxRecDepth 100000 in
theorem w_Mo_know_70 {q_j q_ji q_jo q_jm q_jn q_jf : Nat} {j_in : Int32} {j_out : Int32} {j_made : Int32} {j_fat : Int32} {j_flong : Int32} {j_told : Int32} {j_at : Int32} {j_end : Int32} {j_fault : Int32} {j_fp : Int32} {ji_f : Nat → Int32} {jo_f : Nat → Int32} {jm_f : Nat → Int32} {N : Nat} {j_known' : Int32} {jn_f' : Nat → Int32} {jf_f' : Nat → Int32} {rec7 : Int32 → Int32 → Int32 → (Nat → Int32) → (Nat → Int32) → Option (Int32 × (Nat → Int32) × (Nat → Int32))} {rec30 : Int32 → Int32 → Int32 → Int32 → (Nat → Int32) → (Nat → Int32) → Option (Int32 × (Nat → Int32) × (Nat → Int32))} (hF2 : tp_F p m c c_Mo_know 4 s args tpG R_Mo meth none) (ih7 : ∀ (x1 : Int32) (x2 : Int32) (j_known : Int32) (jn_f : Nat → Int32) (jf_f : Nat → Int32) (H : Heap) (locs : List Loc) (ls : Array Slot), rec7 x1 x2 j_known jn_f jf_f = some (j_known', jn_f', jf_f') → tp_Wd D (tp_ty cB cI) tM A s H locs [(q_j, .inr (7, [.ref q_ji, .int j_in, .ref q_jo, .int j_out, .ref q_jm, .int j_made, .ref q_jn, .ref q_jf, .int j_known, .int j_fat, .int j_flong, .int j_told, .int j_at, .int j_end, .int j_fault, .int j_fp])), (q_ji, .inl (cB, 10000, .inl ji_f)), (q_jo, .inl (cB, 10000, .inl jo_f)), (q_jm, .inl (cB, 20000, .inl jm_f)), (q_jn, .inl (cI, 10001, .inl jn_f)), (q_jf, .inl (cI, 10001, .inl jf_f))] → lv_has ls 4 [(0, .ref q_j), (1, .int x1), (2, .int x2)] → W p l e rm_Mo_know s m args below meth c H locs 0 0 (MQ below (tp_Qv (S := Unit) D A (fun _ => [(q_j, .inr (7, [.ref q_ji, .int j_in, .ref q_jo, .int j_out, .ref q_jm, .int j_made, .ref q_jn, .ref q_jf, .int j_known', .int j_fat, .int j_flong, .int j_told, .int j_at, .int j_end, .int j_fault, .int j_fp])), (q_ji, .inl (cB, 10000, .inl ji_f)), (q_jo, .inl (cB, 10000, .inl jo_f)), (q_jm, .inl (cB, 20000, .inl jm_f)), (q_jn, .inl (cI, 10001, .inl jn_f')), (q_jf, .inl (cI, 10001, .inl jf_f'))])) args s 0 0 A) (F0 m 7 ls [])) (ih30 : ∀ (x1 : Int32) (x2 : Int32) (x3 : Int32) (j_known : Int32) (jn_f : Nat → Int32) (jf_f : Nat → Int32) (H : Heap) (locs : List Loc) (ls : Array Slot), rec30 x1 x2 x3 j_known jn_f jf_f = some (j_known', jn_f', jf_f') → tp_Wd D (tp_ty cB cI) tM A s H locs [(q_j, .inr (7, [.ref q_ji, .int j_in, .ref q_jo, .int j_out, .ref q_jm, .int j_made, .ref q_jn, .ref q_jf, .int j_known, .int j_fat, .int j_flong, .int j_told, .int j_at, .int j_end, .int j_fault, .int j_fp])), (q_ji, .inl (cB, 10000, .inl ji_f)), (q_jo, .inl (cB, 10000, .inl jo_f)), (q_jm, .inl (cB, 20000, .inl jm_f)), (q_jn, .inl (cI, 10001, .inl jn_f)), (q_jf, .inl (cI, 10001, .inl jf_f))] → lv_has ls 4 [(0, .ref q_j), (1, .int x1), (2, .int x2), (3, .int x3)] → W p l e rm_Mo_know s m args below meth c H locs 0 0 (MQ below (tp_Qv (S := Unit) D A (fun _ => [(q_j, .inr (7, [.ref q_ji, .int j_in, .ref q_jo, .int j_out, .ref q_jm, .int j_made, .ref q_jn, .ref q_jf, .int j_known', .int j_fat, .int j_flong, .int j_told, .int j_at, .int j_end, .int j_fault, .int j_fp])), (q_ji, .inl (cB, 10000, .inl ji_f)), (q_jo, .inl (cB, 10000, .inl jo_f)), (q_jm, .inl (cB, 20000, .inl jm_f)), (q_jn, .inl (cI, 10001, .inl jn_f')), (q_jf, .inl (cI, 10001, .inl jf_f'))])) args s 0 0 A) (F0 m 30 ls [])) : ∀ (x1 : Int32) (x2 : Int32) (x3 : Int32) (j_known : Int32) (jn_f : Nat → Int32) (jf_f : Nat → Int32) (H : Heap) (locs : List Loc) (ls : Array Slot), m_Mo_know_70 N rec7 rec30 x1 x2 x3 j_known jn_f jf_f = some (j_known', jn_f', jf_f') → tp_Wd D (tp_ty cB cI) tM A s H locs [(q_j, .inr (7, [.ref q_ji, .int j_in, .ref q_jo, .int j_out, .ref q_jm, .int j_made, .ref q_jn, .ref q_jf, .int j_known, .int j_fat, .int j_flong, .int j_told, .int j_at, .int j_end, .int j_fault, .int j_fp])), (q_ji, .inl (cB, 10000, .inl ji_f)), (q_jo, .inl (cB, 10000, .inl jo_f)), (q_jm, .inl (cB, 20000, .inl jm_f)), (q_jn, .inl (cI, 10001, .inl jn_f)), (q_jf, .inl (cI, 10001, .inl jf_f))] → lv_has ls 4 [(0, .ref q_j), (1, .int x1), (2, .int x2), (3, .int x3)] → W p l e rm_Mo_know s m args below meth c H locs 0 0 (MQ below (tp_Qv (S := Unit) D A (fun _ => [(q_j, .inr (7, [.ref q_ji, .int j_in, .ref q_jo, .int j_out, .ref q_jm, .int j_made, .ref q_jn, .ref q_jf, .int j_known', .int j_fat, .int j_flong, .int j_told, .int j_at, .int j_end, .int j_fault, .int j_fp])), (q_ji, .inl (cB, 10000, .inl ji_f)), (q_jo, .inl (cB, 10000, .inl jo_f)), (q_jm, .inl (cB, 20000, .inl jm_f)), (q_jn, .inl (cI, 10001, .inl jn_f')), (q_jf, .inl (cI, 10001, .inl jf_f'))])) args s 0 0 A) (F0 m 70 ls []) := by
  obtain ⟨hF, hr, hlocks⟩ := id hF2
  obtain ⟨hx, hb, hml, hown, hts⟩ := id hF
  intro x1 x2 x3 j_known jn_f jf_f H locs ls hm hw hl
  unfold m_Mo_know_70 at hm
  refine lv_aload_n hx hb d_Mo_know_70 rfl (lv_at hl 0 rfl) ?_
  refine lv_iload_n hx hb d_Mo_know_71 rfl (lv_at hl 2 rfl) ?_
  refine lv_iload_n hx hb d_Mo_know_72 rfl (lv_at hl 3 rfl) ?_
  refine lv_iconst (v := (0 : Int32)) hx hb d_Mo_know_73 (by decide +kernel) ?_
  obtain ⟨r13, hm14, hm⟩ := tp_b1_e hm
  refine tp_calli (wr := []) (WS' := [(q_j, .inr (7, [.ref q_ji, .int j_in, .ref q_jo, .int j_out, .ref q_jm, .int j_made, .ref q_jn, .ref q_jf, .int j_known, .int j_fat, .int j_flong, .int j_told, .int j_at, .int j_end, .int j_fault, .int j_fp])), (q_ji, .inl (cB, 10000, .inl ji_f)), (q_jo, .inl (cB, 10000, .inl jo_f)), (q_jm, .inl (cB, 20000, .inl jm_f)), (q_jn, .inl (cI, 10001, .inl jn_f)), (q_jf, .inl (cI, 10001, .inl jf_f))]) (va_runV (As := [.int x2, .int x3, .int (0 : Int32)]) (rest := []) hF (ct_Mo_tried (l := l) (D := D) (cB := cB) (cI := cI) (tM := tM) (q_j := q_j) (q_ji := q_ji) (q_jo := q_jo) (q_jm := q_jm) (q_jn := q_jn) (q_jf := q_jf) (j_in := j_in) (j_out := j_out) (j_made := j_made) (j_known := j_known) (j_fat := j_fat) (j_flong := j_flong) (j_told := j_told) (j_at := j_at) (j_end := j_end) (j_fault := j_fault) (j_fp := j_fp) (ji_f := ji_f) (jo_f := jo_f) (jm_f := jm_f) (jn_f := jn_f) (jf_f := jf_f) (x1 := x2) (x2 := x3) (x3 := (0 : Int32)) (r := r13) hm14 _) (cwV 3 hts (tpG_V wd_370 wd_371 wd_372 wd_340 wd_369) rfl rfl rfl ⟨rfl, yd_Mo_tried⟩ ⟨Nat.le_of_ble_eq_true rfl, Nat.le_of_ble_eq_true rfl⟩) ⟨tp_blind, va_recv hw.1 hw.2.1 (ci := 7) (q0 := 0) rfl rfl, tp_pre hw [0, 1, 2, 3, 4, 5] rfl rfl⟩ rfl rfl hl.1 rfl (lv_room (Nat.le_of_ble_eq_true rfl)) d_Mo_know_74 ⟨Nat.le_of_ble_eq_true rfl, Nat.le_of_ble_eq_true rfl⟩) hw [0, 1, 2, 3, 4, 5] [] [0, 1, 2, 3, 4, 5] rfl rfl rfl (by decide) rfl rfl (fun H locs hw => ?_)
  refine lv_aload_n hx hb d_Mo_know_77 rfl (lv_at hl 0 rfl) ?_
  refine tp_get (v := .ref q_jf) (C := R_Mo) (T := T_Mo) hx hb hts fw_Mo hown hw 0 rfl rfl 7 (by decide +kernel) (hts _ wd_358) rfl d_Mo_know_78 ?_
  refine lv_iload_n hx hb d_Mo_know_81 rfl (lv_at hl 2 rfl) ?_
  obtain ⟨hi15, hm⟩ := tp_gd_e hm
  refine tp_iald hx hb hw 5 1 rfl rfl hi15 d_Mo_know_82 ?_
  refine lv_icmp_ge (tgt := 99) hx hb d_Mo_know_83 (by decide +kernel) (fun hc16 => ?_) (fun hc16 => ?_)
  · replace hm := tp_it hc16 hm
    refine lv_iinc (v := (x3 + (1 : Int32))) (lv' := [(3, .int (x3 + (1 : Int32))), (0, .ref q_j), (1, .int x1), (2, .int x2)]) hx hb d_Mo_know_99 hl (k := 3) rfl rfl (by decide +kernel) rfl (fun ls hl => ?_)
    refine lv_goto (tgt := 30) hx hb d_Mo_know_102 (by decide +kernel) ?_
    exact ih30 _ _ _ _ _ _ _ _ _ hm hw (lv_sub hl [1, 2, 3, 0] rfl)
  · replace hm := tp_if hc16 hm
    refine lv_aload_n hx hb d_Mo_know_86 rfl (lv_at hl 0 rfl) ?_
    refine tp_get (v := .ref q_jf) (C := R_Mo) (T := T_Mo) hx hb hts fw_Mo hown hw 0 rfl rfl 7 (by decide +kernel) (hts _ wd_358) rfl d_Mo_know_87 ?_
    refine lv_iload_n hx hb d_Mo_know_90 rfl (lv_at hl 2 rfl) ?_
    refine lv_aload_n hx hb d_Mo_know_91 rfl (lv_at hl 0 rfl) ?_
    refine lv_iload_n hx hb d_Mo_know_92 rfl (lv_at hl 2 rfl) ?_
    refine lv_iload_n hx hb d_Mo_know_93 rfl (lv_at hl 3 rfl) ?_
    refine lv_iconst (v := (0 : Int32)) hx hb d_Mo_know_94 (by decide +kernel) ?_
    obtain ⟨r17, hm18, hm⟩ := tp_b1_e hm
    refine tp_calli (wr := []) (WS' := [(q_j, .inr (7, [.ref q_ji, .int j_in, .ref q_jo, .int j_out, .ref q_jm, .int j_made, .ref q_jn, .ref q_jf, .int j_known, .int j_fat, .int j_flong, .int j_told, .int j_at, .int j_end, .int j_fault, .int j_fp])), (q_ji, .inl (cB, 10000, .inl ji_f)), (q_jo, .inl (cB, 10000, .inl jo_f)), (q_jm, .inl (cB, 20000, .inl jm_f)), (q_jn, .inl (cI, 10001, .inl jn_f)), (q_jf, .inl (cI, 10001, .inl jf_f))]) (va_runV (As := [.int x2, .int x3, .int (0 : Int32)]) (rest := [.int x2, .ref q_jf]) hF (ct_Mo_tried (l := l) (D := D) (cB := cB) (cI := cI) (tM := tM) (q_j := q_j) (q_ji := q_ji) (q_jo := q_jo) (q_jm := q_jm) (q_jn := q_jn) (q_jf := q_jf) (j_in := j_in) (j_out := j_out) (j_made := j_made) (j_known := j_known) (j_fat := j_fat) (j_flong := j_flong) (j_told := j_told) (j_at := j_at) (j_end := j_end) (j_fault := j_fault) (j_fp := j_fp) (ji_f := ji_f) (jo_f := jo_f) (jm_f := jm_f) (jn_f := jn_f) (jf_f := jf_f) (x1 := x2) (x2 := x3) (x3 := (0 : Int32)) (r := r17) hm18 _) (cwV 3 hts (tpG_V wd_370 wd_371 wd_372 wd_340 wd_369) rfl rfl rfl ⟨rfl, yd_Mo_tried⟩ ⟨Nat.le_of_ble_eq_true rfl, Nat.le_of_ble_eq_true rfl⟩) ⟨tp_blind, va_recv hw.1 hw.2.1 (ci := 7) (q0 := 0) rfl rfl, tp_pre hw [0, 1, 2, 3, 4, 5] rfl rfl⟩ rfl rfl hl.1 rfl (lv_room (Nat.le_of_ble_eq_true rfl)) d_Mo_know_95 ⟨Nat.le_of_ble_eq_true rfl, Nat.le_of_ble_eq_true rfl⟩) hw [0, 1, 2, 3, 4, 5] [] [0, 1, 2, 3, 4, 5] rfl rfl rfl (by decide) rfl rfl (fun H locs hw => ?_)
    obtain ⟨hi19, hm⟩ := tp_gd_e hm
    refine tp_iast (WS' := [(q_j, .inr (7, [.ref q_ji, .int j_in, .ref q_jo, .int j_out, .ref q_jm, .int j_made, .ref q_jn, .ref q_jf, .int j_known, .int j_fat, .int j_flong, .int j_told, .int j_at, .int j_end, .int j_fault, .int j_fp])), (q_ji, .inl (cB, 10000, .inl ji_f)), (q_jo, .inl (cB, 10000, .inl jo_f)), (q_jm, .inl (cB, 20000, .inl jm_f)), (q_jn, .inl (cI, 10001, .inl jn_f)), (q_jf, .inl (cI, 10001, .inl (upd jf_f (Int32.toNatClampNeg x2) r17)))]) hx hb hw 5 1 rfl rfl hi19 rfl d_Mo_know_98 (fun H locs hw => ?_)
    refine lv_iinc (v := (x3 + (1 : Int32))) (lv' := [(3, .int (x3 + (1 : Int32))), (0, .ref q_j), (1, .int x1), (2, .int x2)]) hx hb d_Mo_know_99 hl (k := 3) rfl rfl (by decide +kernel) rfl (fun ls hl => ?_)
    refine lv_goto (tgt := 30) hx hb d_Mo_know_102 (by decide +kernel) ?_
    exact ih30 _ _ _ _ _ _ _ _ _ hm hw (lv_sub hl [1, 2, 3, 0] rfl)
set_option maxHeartbeats 4000000 in
set_option maxRecDepth 100000 in
theorem w_Mo_know_30 {q_j q_ji q_jo q_jm q_jn q_jf : Nat} {j_in : Int32} {j_out : Int32} {j_made : Int32} {j_fat : Int32} {j_flong : Int32} {j_told : Int32} {j_at : Int32} {j_end : Int32} {j_fault : Int32} {j_fp : Int32} {ji_f : Nat → Int32} {jo_f : Nat → Int32} {jm_f : Nat → Int32} {N : Nat} {j_known' : Int32} {jn_f' : Nat → Int32} {jf_f' : Nat → Int32} {rec7 : Int32 → Int32 → Int32 → (Nat → Int32) → (Nat → Int32) → Option (Int32 × (Nat → Int32) × (Nat → Int32))} (hF2 : tp_F p m c c_Mo_know 4 s args tpG R_Mo meth none) (ih7 : ∀ (x1 : Int32) (x2 : Int32) (j_known : Int32) (jn_f : Nat → Int32) (jf_f : Nat → Int32) (H : Heap) (locs : List Loc) (ls : Array Slot), rec7 x1 x2 j_known jn_f jf_f = some (j_known', jn_f', jf_f') → tp_Wd D (tp_ty cB cI) tM A s H locs [(q_j, .inr (7, [.ref q_ji, .int j_in, .ref q_jo, .int j_out, .ref q_jm, .int j_made, .ref q_jn, .ref q_jf, .int j_known, .int j_fat, .int j_flong, .int j_told, .int j_at, .int j_end, .int j_fault, .int j_fp])), (q_ji, .inl (cB, 10000, .inl ji_f)), (q_jo, .inl (cB, 10000, .inl jo_f)), (q_jm, .inl (cB, 20000, .inl jm_f)), (q_jn, .inl (cI, 10001, .inl jn_f)), (q_jf, .inl (cI, 10001, .inl jf_f))] → lv_has ls 4 [(0, .ref q_j), (1, .int x1), (2, .int x2)] → W p l e rm_Mo_know s m args below meth c H locs 0 0 (MQ below (tp_Qv (S := Unit) D A (fun _ => [(q_j, .inr (7, [.ref q_ji, .int j_in, .ref q_jo, .int j_out, .ref q_jm, .int j_made, .ref q_jn, .ref q_jf, .int j_known', .int j_fat, .int j_flong, .int j_told, .int j_at, .int j_end, .int j_fault, .int j_fp])), (q_ji, .inl (cB, 10000, .inl ji_f)), (q_jo, .inl (cB, 10000, .inl jo_f)), (q_jm, .inl (cB, 20000, .inl jm_f)), (q_jn, .inl (cI, 10001, .inl jn_f')), (q_jf, .inl (cI, 10001, .inl jf_f'))])) args s 0 0 A) (F0 m 7 ls [])) : ∀ (n : Nat), ∀ (x1 : Int32) (x2 : Int32) (x3 : Int32) (j_known : Int32) (jn_f : Nat → Int32) (jf_f : Nat → Int32) (H : Heap) (locs : List Loc) (ls : Array Slot), tp_it6 (m_Mo_know_30 N rec7) n x1 x2 x3 j_known jn_f jf_f = some (j_known', jn_f', jf_f') → tp_Wd D (tp_ty cB cI) tM A s H locs [(q_j, .inr (7, [.ref q_ji, .int j_in, .ref q_jo, .int j_out, .ref q_jm, .int j_made, .ref q_jn, .ref q_jf, .int j_known, .int j_fat, .int j_flong, .int j_told, .int j_at, .int j_end, .int j_fault, .int j_fp])), (q_ji, .inl (cB, 10000, .inl ji_f)), (q_jo, .inl (cB, 10000, .inl jo_f)), (q_jm, .inl (cB, 20000, .inl jm_f)), (q_jn, .inl (cI, 10001, .inl jn_f)), (q_jf, .inl (cI, 10001, .inl jf_f))] → lv_has ls 4 [(0, .ref q_j), (1, .int x1), (2, .int x2), (3, .int x3)] → W p l e rm_Mo_know s m args below meth c H locs 0 0 (MQ below (tp_Qv (S := Unit) D A (fun _ => [(q_j, .inr (7, [.ref q_ji, .int j_in, .ref q_jo, .int j_out, .ref q_jm, .int j_made, .ref q_jn, .ref q_jf, .int j_known', .int j_fat, .int j_flong, .int j_told, .int j_at, .int j_end, .int j_fault, .int j_fp])), (q_ji, .inl (cB, 10000, .inl ji_f)), (q_jo, .inl (cB, 10000, .inl jo_f)), (q_jm, .inl (cB, 20000, .inl jm_f)), (q_jn, .inl (cI, 10001, .inl jn_f')), (q_jf, .inl (cI, 10001, .inl jf_f'))])) args s 0 0 A) (F0 m 30 ls []) := by
  obtain ⟨hF, hr, hlocks⟩ := id hF2
  obtain ⟨hx, hb, hml, hown, hts⟩ := id hF
  intro n
  induction n with
  | zero => intro x1 x2 x3 j_known jn_f jf_f H locs ls hm; exact absurd hm (by simp [tp_it6])
  | succ n ih30 =>
    intro x1 x2 x3 j_known jn_f jf_f H locs ls hm hw hl
    replace hm : m_Mo_know_30 N rec7 (tp_it6 (m_Mo_know_30 N rec7) n) x1 x2 x3 j_known jn_f jf_f = some (j_known', jn_f', jf_f') := hm
    unfold m_Mo_know_30 at hm
    refine lv_iload_n hx hb d_Mo_know_30 rfl (lv_at hl 3 rfl) ?_
    refine lv_bipush (v := (64 : Int32)) hx hb d_Mo_know_31 (by decide +kernel) ?_
    refine lv_icmp_gt (tgt := 105) hx hb d_Mo_know_33 (by decide +kernel) (fun hc4 => ?_) (fun hc4 => ?_)
    · replace hm := tp_it hc4 hm
      refine lv_aload_n hx hb d_Mo_know_105 rfl (lv_at hl 0 rfl) ?_
      refine lv_iload_n hx hb d_Mo_know_106 rfl (lv_at hl 2 rfl) ?_
      refine tp_put (v := .int x2) (C := R_Mo) (T := T_Mo) (WS' := [(q_j, .inr (7, [.ref q_ji, .int j_in, .ref q_jo, .int j_out, .ref q_jm, .int j_made, .ref q_jn, .ref q_jf, .int x2, .int j_fat, .int j_flong, .int j_told, .int j_at, .int j_end, .int j_fault, .int j_fp])), (q_ji, .inl (cB, 10000, .inl ji_f)), (q_jo, .inl (cB, 10000, .inl jo_f)), (q_jm, .inl (cB, 20000, .inl jm_f)), (q_jn, .inl (cI, 10001, .inl jn_f)), (q_jf, .inl (cI, 10001, .inl jf_f))]) hx hb hts fw_Mo ty_Mo ty_Mo_ok nm_Mo hown hw 0 rfl rfl 8 (by decide +kernel) (hts _ wd_367) rfl rfl rfl (Nat.le_of_ble_eq_true rfl) rfl d_Mo_know_107 (fun H locs hw => ?_)
      refine lv_iinc (v := (x2 + (1 : Int32))) (lv' := [(2, .int (x2 + (1 : Int32))), (0, .ref q_j), (1, .int x1), (3, .int x3)]) hx hb d_Mo_know_110 hl (k := 2) rfl rfl (by decide +kernel) rfl (fun ls hl => ?_)
      refine lv_goto (tgt := 7) hx hb d_Mo_know_113 (by decide +kernel) ?_
      exact ih7 _ _ _ _ _ _ _ _ hm hw (lv_sub hl [1, 2, 0] rfl)
    · replace hm := tp_if hc4 hm
      refine lv_iload_n hx hb d_Mo_know_36 rfl (lv_at hl 3 rfl) ?_
      refine lv_iload_n hx hb d_Mo_know_37 rfl (lv_at hl 2 rfl) ?_
      refine lv_icmp_gt (tgt := 105) hx hb d_Mo_know_38 (by decide +kernel) (fun hc5 => ?_) (fun hc5 => ?_)
      · replace hm := tp_it hc5 hm
        refine lv_aload_n hx hb d_Mo_know_105 rfl (lv_at hl 0 rfl) ?_
        refine lv_iload_n hx hb d_Mo_know_106 rfl (lv_at hl 2 rfl) ?_
        refine tp_put (v := .int x2) (C := R_Mo) (T := T_Mo) (WS' := [(q_j, .inr (7, [.ref q_ji, .int j_in, .ref q_jo, .int j_out, .ref q_jm, .int j_made, .ref q_jn, .ref q_jf, .int x2, .int j_fat, .int j_flong, .int j_told, .int j_at, .int j_end, .int j_fault, .int j_fp])), (q_ji, .inl (cB, 10000, .inl ji_f)), (q_jo, .inl (cB, 10000, .inl jo_f)), (q_jm, .inl (cB, 20000, .inl jm_f)), (q_jn, .inl (cI, 10001, .inl jn_f)), (q_jf, .inl (cI, 10001, .inl jf_f))]) hx hb hts fw_Mo ty_Mo ty_Mo_ok nm_Mo hown hw 0 rfl rfl 8 (by decide +kernel) (hts _ wd_367) rfl rfl rfl (Nat.le_of_ble_eq_true rfl) rfl d_Mo_know_107 (fun H locs hw => ?_)
        refine lv_iinc (v := (x2 + (1 : Int32))) (lv' := [(2, .int (x2 + (1 : Int32))), (0, .ref q_j), (1, .int x1), (3, .int x3)]) hx hb d_Mo_know_110 hl (k := 2) rfl rfl (by decide +kernel) rfl (fun ls hl => ?_)
        refine lv_goto (tgt := 7) hx hb d_Mo_know_113 (by decide +kernel) ?_
        exact ih7 _ _ _ _ _ _ _ _ hm hw (lv_sub hl [1, 2, 0] rfl)
      · replace hm := tp_if hc5 hm
        refine lv_aload_n hx hb d_Mo_know_41 rfl (lv_at hl 0 rfl) ?_
        refine lv_iload_n hx hb d_Mo_know_42 rfl (lv_at hl 2 rfl) ?_
        refine lv_iload_n hx hb d_Mo_know_43 rfl (lv_at hl 3 rfl) ?_
        refine lv_iconst (v := (1 : Int32)) hx hb d_Mo_know_44 (by decide +kernel) ?_
        obtain ⟨r6, hm7, hm⟩ := tp_b1_e hm
        refine tp_calli (wr := []) (WS' := [(q_j, .inr (7, [.ref q_ji, .int j_in, .ref q_jo, .int j_out, .ref q_jm, .int j_made, .ref q_jn, .ref q_jf, .int j_known, .int j_fat, .int j_flong, .int j_told, .int j_at, .int j_end, .int j_fault, .int j_fp])), (q_ji, .inl (cB, 10000, .inl ji_f)), (q_jo, .inl (cB, 10000, .inl jo_f)), (q_jm, .inl (cB, 20000, .inl jm_f)), (q_jn, .inl (cI, 10001, .inl jn_f)), (q_jf, .inl (cI, 10001, .inl jf_f))]) (va_runV (As := [.int x2, .int x3, .int (1 : Int32)]) (rest := []) hF (ct_Mo_tried (l := l) (D := D) (cB := cB) (cI := cI) (tM := tM) (q_j := q_j) (q_ji := q_ji) (q_jo := q_jo) (q_jm := q_jm) (q_jn := q_jn) (q_jf := q_jf) (j_in := j_in) (j_out := j_out) (j_made := j_made) (j_known := j_known) (j_fat := j_fat) (j_flong := j_flong) (j_told := j_told) (j_at := j_at) (j_end := j_end) (j_fault := j_fault) (j_fp := j_fp) (ji_f := ji_f) (jo_f := jo_f) (jm_f := jm_f) (jn_f := jn_f) (jf_f := jf_f) (x1 := x2) (x2 := x3) (x3 := (1 : Int32)) (r := r6) hm7 _) (cwV 3 hts (tpG_V wd_370 wd_371 wd_372 wd_340 wd_369) rfl rfl rfl ⟨rfl, yd_Mo_tried⟩ ⟨Nat.le_of_ble_eq_true rfl, Nat.le_of_ble_eq_true rfl⟩) ⟨tp_blind, va_recv hw.1 hw.2.1 (ci := 7) (q0 := 0) rfl rfl, tp_pre hw [0, 1, 2, 3, 4, 5] rfl rfl⟩ rfl rfl hl.1 rfl (lv_room (Nat.le_of_ble_eq_true rfl)) d_Mo_know_45 ⟨Nat.le_of_ble_eq_true rfl, Nat.le_of_ble_eq_true rfl⟩) hw [0, 1, 2, 3, 4, 5] [] [0, 1, 2, 3, 4, 5] rfl rfl rfl (by decide) rfl rfl (fun H locs hw => ?_)
        refine lv_aload_n hx hb d_Mo_know_48 rfl (lv_at hl 0 rfl) ?_
        refine tp_get (v := .ref q_jn) (C := R_Mo) (T := T_Mo) hx hb hts fw_Mo hown hw 0 rfl rfl 6 (by decide +kernel) (hts _ wd_359) rfl d_Mo_know_49 ?_
        refine lv_iload_n hx hb d_Mo_know_52 rfl (lv_at hl 2 rfl) ?_
        obtain ⟨hi8, hm⟩ := tp_gd_e hm
        refine tp_iald hx hb hw 4 1 rfl rfl hi8 d_Mo_know_53 ?_
        refine lv_icmp_ge (tgt := 70) hx hb d_Mo_know_54 (by decide +kernel) (fun hc9 => ?_) (fun hc9 => ?_)
        · replace hm := tp_it hc9 hm
          exact w_Mo_know_70 hF2 ih7 ih30 _ _ _ _ _ _ _ _ _ hm hw (lv_sub hl [0, 1, 2, 3] rfl)
        · replace hm := tp_if hc9 hm
          refine lv_aload_n hx hb d_Mo_know_57 rfl (lv_at hl 0 rfl) ?_
          refine tp_get (v := .ref q_jn) (C := R_Mo) (T := T_Mo) hx hb hts fw_Mo hown hw 0 rfl rfl 6 (by decide +kernel) (hts _ wd_359) rfl d_Mo_know_58 ?_
          refine lv_iload_n hx hb d_Mo_know_61 rfl (lv_at hl 2 rfl) ?_
          refine lv_aload_n hx hb d_Mo_know_62 rfl (lv_at hl 0 rfl) ?_
          refine lv_iload_n hx hb d_Mo_know_63 rfl (lv_at hl 2 rfl) ?_
          refine lv_iload_n hx hb d_Mo_know_64 rfl (lv_at hl 3 rfl) ?_
          refine lv_iconst (v := (1 : Int32)) hx hb d_Mo_know_65 (by decide +kernel) ?_
          obtain ⟨r10, hm11, hm⟩ := tp_b1_e hm
          refine tp_calli (wr := []) (WS' := [(q_j, .inr (7, [.ref q_ji, .int j_in, .ref q_jo, .int j_out, .ref q_jm, .int j_made, .ref q_jn, .ref q_jf, .int j_known, .int j_fat, .int j_flong, .int j_told, .int j_at, .int j_end, .int j_fault, .int j_fp])), (q_ji, .inl (cB, 10000, .inl ji_f)), (q_jo, .inl (cB, 10000, .inl jo_f)), (q_jm, .inl (cB, 20000, .inl jm_f)), (q_jn, .inl (cI, 10001, .inl jn_f)), (q_jf, .inl (cI, 10001, .inl jf_f))]) (va_runV (As := [.int x2, .int x3, .int (1 : Int32)]) (rest := [.int x2, .ref q_jn]) hF (ct_Mo_tried (l := l) (D := D) (cB := cB) (cI := cI) (tM := tM) (q_j := q_j) (q_ji := q_ji) (q_jo := q_jo) (q_jm := q_jm) (q_jn := q_jn) (q_jf := q_jf) (j_in := j_in) (j_out := j_out) (j_made := j_made) (j_known := j_known) (j_fat := j_fat) (j_flong := j_flong) (j_told := j_told) (j_at := j_at) (j_end := j_end) (j_fault := j_fault) (j_fp := j_fp) (ji_f := ji_f) (jo_f := jo_f) (jm_f := jm_f) (jn_f := jn_f) (jf_f := jf_f) (x1 := x2) (x2 := x3) (x3 := (1 : Int32)) (r := r10) hm11 _) (cwV 3 hts (tpG_V wd_370 wd_371 wd_372 wd_340 wd_369) rfl rfl rfl ⟨rfl, yd_Mo_tried⟩ ⟨Nat.le_of_ble_eq_true rfl, Nat.le_of_ble_eq_true rfl⟩) ⟨tp_blind, va_recv hw.1 hw.2.1 (ci := 7) (q0 := 0) rfl rfl, tp_pre hw [0, 1, 2, 3, 4, 5] rfl rfl⟩ rfl rfl hl.1 rfl (lv_room (Nat.le_of_ble_eq_true rfl)) d_Mo_know_66 ⟨Nat.le_of_ble_eq_true rfl, Nat.le_of_ble_eq_true rfl⟩) hw [0, 1, 2, 3, 4, 5] [] [0, 1, 2, 3, 4, 5] rfl rfl rfl (by decide) rfl rfl (fun H locs hw => ?_)
          obtain ⟨hi12, hm⟩ := tp_gd_e hm
          refine tp_iast (WS' := [(q_j, .inr (7, [.ref q_ji, .int j_in, .ref q_jo, .int j_out, .ref q_jm, .int j_made, .ref q_jn, .ref q_jf, .int j_known, .int j_fat, .int j_flong, .int j_told, .int j_at, .int j_end, .int j_fault, .int j_fp])), (q_ji, .inl (cB, 10000, .inl ji_f)), (q_jo, .inl (cB, 10000, .inl jo_f)), (q_jm, .inl (cB, 20000, .inl jm_f)), (q_jn, .inl (cI, 10001, .inl (upd jn_f (Int32.toNatClampNeg x2) r10))), (q_jf, .inl (cI, 10001, .inl jf_f))]) hx hb hw 4 1 rfl rfl hi12 rfl d_Mo_know_69 (fun H locs hw => ?_)
          exact w_Mo_know_70 hF2 ih7 ih30 _ _ _ _ _ _ _ _ _ hm hw (lv_sub hl [0, 1, 2, 3] rfl)
set_option maxHeartbeats 4000000 in
set_option maxRecDepth 100000 in
theorem w_Mo_know_7 {q_j q_ji q_jo q_jm q_jn q_jf : Nat} {j_in : Int32} {j_out : Int32} {j_made : Int32} {j_fat : Int32} {j_flong : Int32} {j_told : Int32} {j_at : Int32} {j_end : Int32} {j_fault : Int32} {j_fp : Int32} {ji_f : Nat → Int32} {jo_f : Nat → Int32} {jm_f : Nat → Int32} {N : Nat} {j_known' : Int32} {jn_f' : Nat → Int32} {jf_f' : Nat → Int32} (hF2 : tp_F p m c c_Mo_know 4 s args tpG R_Mo meth none) : ∀ (n : Nat), ∀ (x1 : Int32) (x2 : Int32) (j_known : Int32) (jn_f : Nat → Int32) (jf_f : Nat → Int32) (H : Heap) (locs : List Loc) (ls : Array Slot), tp_it5 (m_Mo_know_7 N ) n x1 x2 j_known jn_f jf_f = some (j_known', jn_f', jf_f') → tp_Wd D (tp_ty cB cI) tM A s H locs [(q_j, .inr (7, [.ref q_ji, .int j_in, .ref q_jo, .int j_out, .ref q_jm, .int j_made, .ref q_jn, .ref q_jf, .int j_known, .int j_fat, .int j_flong, .int j_told, .int j_at, .int j_end, .int j_fault, .int j_fp])), (q_ji, .inl (cB, 10000, .inl ji_f)), (q_jo, .inl (cB, 10000, .inl jo_f)), (q_jm, .inl (cB, 20000, .inl jm_f)), (q_jn, .inl (cI, 10001, .inl jn_f)), (q_jf, .inl (cI, 10001, .inl jf_f))] → lv_has ls 4 [(0, .ref q_j), (1, .int x1), (2, .int x2)] → W p l e rm_Mo_know s m args below meth c H locs 0 0 (MQ below (tp_Qv (S := Unit) D A (fun _ => [(q_j, .inr (7, [.ref q_ji, .int j_in, .ref q_jo, .int j_out, .ref q_jm, .int j_made, .ref q_jn, .ref q_jf, .int j_known', .int j_fat, .int j_flong, .int j_told, .int j_at, .int j_end, .int j_fault, .int j_fp])), (q_ji, .inl (cB, 10000, .inl ji_f)), (q_jo, .inl (cB, 10000, .inl jo_f)), (q_jm, .inl (cB, 20000, .inl jm_f)), (q_jn, .inl (cI, 10001, .inl jn_f')), (q_jf, .inl (cI, 10001, .inl jf_f'))])) args s 0 0 A) (F0 m 7 ls []) := by
  obtain ⟨hF, hr, hlocks⟩ := id hF2
  obtain ⟨hx, hb, hml, hown, hts⟩ := id hF
  intro n
  induction n with
  | zero => intro x1 x2 j_known jn_f jf_f H locs ls hm; exact absurd hm (by simp [tp_it5])
  | succ n ih7 =>
    intro x1 x2 j_known jn_f jf_f H locs ls hm hw hl
    replace hm : m_Mo_know_7 N  (tp_it5 (m_Mo_know_7 N ) n) x1 x2 j_known jn_f jf_f = some (j_known', jn_f', jf_f') := hm
    unfold m_Mo_know_7 at hm
    refine lv_iload_n hx hb d_Mo_know_7 rfl (lv_at hl 2 rfl) ?_
    refine lv_iload_n hx hb d_Mo_know_8 rfl (lv_at hl 1 rfl) ?_
    refine lv_icmp_gt (tgt := 116) hx hb d_Mo_know_9 (by decide +kernel) (fun hc1 => ?_) (fun hc1 => ?_)
    · replace hm := tp_it hc1 hm
      obtain ⟨rfl, rfl, rfl⟩ := tp_inj3 hm
      exact tp_vret () hx hb hr hlocks hw d_Mo_know_116
    · replace hm := tp_if hc1 hm
      refine lv_aload_n hx hb d_Mo_know_12 rfl (lv_at hl 0 rfl) ?_
      refine tp_get (v := .ref q_jn) (C := R_Mo) (T := T_Mo) hx hb hts fw_Mo hown hw 0 rfl rfl 6 (by decide +kernel) (hts _ wd_359) rfl d_Mo_know_13 ?_
      refine lv_iload_n hx hb d_Mo_know_16 rfl (lv_at hl 2 rfl) ?_
      refine lv_ldc (v := (2147483647 : Int32)) hx hb hown (hts _ wd_368) d_Mo_know_17 ?_
      obtain ⟨hi2, hm⟩ := tp_gd_e hm
      refine tp_iast (WS' := [(q_j, .inr (7, [.ref q_ji, .int j_in, .ref q_jo, .int j_out, .ref q_jm, .int j_made, .ref q_jn, .ref q_jf, .int j_known, .int j_fat, .int j_flong, .int j_told, .int j_at, .int j_end, .int j_fault, .int j_fp])), (q_ji, .inl (cB, 10000, .inl ji_f)), (q_jo, .inl (cB, 10000, .inl jo_f)), (q_jm, .inl (cB, 20000, .inl jm_f)), (q_jn, .inl (cI, 10001, .inl (upd jn_f (Int32.toNatClampNeg x2) (2147483647 : Int32)))), (q_jf, .inl (cI, 10001, .inl jf_f))]) hx hb hw 4 1 rfl rfl hi2 rfl d_Mo_know_19 (fun H locs hw => ?_)
      refine lv_aload_n hx hb d_Mo_know_20 rfl (lv_at hl 0 rfl) ?_
      refine tp_get (v := .ref q_jf) (C := R_Mo) (T := T_Mo) hx hb hts fw_Mo hown hw 0 rfl rfl 7 (by decide +kernel) (hts _ wd_358) rfl d_Mo_know_21 ?_
      refine lv_iload_n hx hb d_Mo_know_24 rfl (lv_at hl 2 rfl) ?_
      refine lv_ldc (v := (2147483647 : Int32)) hx hb hown (hts _ wd_368) d_Mo_know_25 ?_
      obtain ⟨hi3, hm⟩ := tp_gd_e hm
      refine tp_iast (WS' := [(q_j, .inr (7, [.ref q_ji, .int j_in, .ref q_jo, .int j_out, .ref q_jm, .int j_made, .ref q_jn, .ref q_jf, .int j_known, .int j_fat, .int j_flong, .int j_told, .int j_at, .int j_end, .int j_fault, .int j_fp])), (q_ji, .inl (cB, 10000, .inl ji_f)), (q_jo, .inl (cB, 10000, .inl jo_f)), (q_jm, .inl (cB, 20000, .inl jm_f)), (q_jn, .inl (cI, 10001, .inl (upd jn_f (Int32.toNatClampNeg x2) (2147483647 : Int32)))), (q_jf, .inl (cI, 10001, .inl (upd jf_f (Int32.toNatClampNeg x2) (2147483647 : Int32))))]) hx hb hw 5 1 rfl rfl hi3 rfl d_Mo_know_27 (fun H locs hw => ?_)
      refine lv_iconst (v := (1 : Int32)) hx hb d_Mo_know_28 (by decide +kernel) ?_
      refine lv_istore_n (lv' := [(3, .int (1 : Int32)), (0, .ref q_j), (1, .int x1), (2, .int x2)]) hx hb d_Mo_know_29 rfl hl (by decide +kernel) rfl (fun ls hl => ?_)
      exact w_Mo_know_30 hF2 ih7 N _ _ _ _ _ _ _ _ _ hm hw (lv_sub hl [1, 2, 3, 0] rfl)
set_option maxHeartbeats 4000000 in
set_option maxRecDepth 100000 in
theorem ct_Mo_know {q_j q_ji q_jo q_jm q_jn q_jf : Nat} {j_in : Int32} {j_out : Int32} {j_made : Int32} {j_known : Int32} {j_fat : Int32} {j_flong : Int32} {j_told : Int32} {j_at : Int32} {j_end : Int32} {j_fault : Int32} {j_fp : Int32} {ji_f : Nat → Int32} {jo_f : Nat → Int32} {jm_f : Nat → Int32} {jn_f : Nat → Int32} {jf_f : Nat → Int32} {N : Nat} {x1 : Int32} {j_known' : Int32} {jn_f' : Nat → Int32} {jf_f' : Nat → Int32} (hm : m_Mo_know N x1 j_known jn_f jf_f = some (j_known', jn_f', jf_f')) (sz : Nat) : tp_Cv l y_Mo_know ws_Mo_know rm_Mo_know D (tp_ty cB cI) tM [.ref q_j, .int x1] [(q_j, .inr (7, [.ref q_ji, .int j_in, .ref q_jo, .int j_out, .ref q_jm, .int j_made, .ref q_jn, .ref q_jf, .int j_known, .int j_fat, .int j_flong, .int j_told, .int j_at, .int j_end, .int j_fault, .int j_fp])), (q_ji, .inl (cB, 10000, .inl ji_f)), (q_jo, .inl (cB, 10000, .inl jo_f)), (q_jm, .inl (cB, 20000, .inl jm_f)), (q_jn, .inl (cI, 10001, .inl jn_f)), (q_jf, .inl (cI, 10001, .inl jf_f))] sz [(q_j, .inr (7, [.ref q_ji, .int j_in, .ref q_jo, .int j_out, .ref q_jm, .int j_made, .ref q_jn, .ref q_jf, .int j_known', .int j_fat, .int j_flong, .int j_told, .int j_at, .int j_end, .int j_fault, .int j_fp])), (q_ji, .inl (cB, 10000, .inl ji_f)), (q_jo, .inl (cB, 10000, .inl jo_f)), (q_jm, .inl (cB, 20000, .inl jm_f)), (q_jn, .inl (cI, 10001, .inl jn_f')), (q_jf, .inl (cI, 10001, .inl jf_f'))] := by
  refine Met.ofW (cc := c_Mo_know) (maxL := 4) (ret := none) (by decide) rfl ?_
  intro p e s m args below meth c s₁ B hml hv
  obtain ⟨rfl, hv⟩ := hv
  have hw := tp_entry hv
  generalize va_A [(q_j, .inr (7, [.ref q_ji, .int j_in, .ref q_jo, .int j_out, .ref q_jm, .int j_made, .ref q_jn, .ref q_jf, .int j_known, .int j_fat, .int j_flong, .int j_told, .int j_at, .int j_end, .int j_fault, .int j_fp])), (q_ji, .inl (cB, 10000, .inl ji_f)), (q_jo, .inl (cB, 10000, .inl jo_f)), (q_jm, .inl (cB, 20000, .inl jm_f)), (q_jn, .inl (cI, 10001, .inl jn_f)), (q_jf, .inl (cI, 10001, .inl jf_f))] sz = A at hw ⊢
  have hx := B.exec
  have hb := B.bytes
  have hr := B.returns
  have hts0 := atoms_spec (ws := ws_Mo_know) B.pre
  have hts := fun w h => hts0 w (List.mem_cons_of_mem _ h)
  have hown : s.vm.findClass R_Mo = some m.cls := findClass_of_methodNamed B.named
  have hlocks := B.notSynchronized
  have hF : CallFix p m c c_Mo_know 4 s _ tpG R_Mo := ⟨hx, hb, hml, hown, hts⟩
  have hF2 : tp_F p m c c_Mo_know 4 s _ tpG R_Mo meth none := ⟨hF, hr, hlocks⟩
  have hl := lv_entry ([.ref q_j, .int x1]) (n := 4) (Nat.le_of_ble_eq_true rfl)
  rw [lg_entry_eq]
  generalize (lg_sl ([.ref q_j, .int x1]) ++ List.replicate (4 - (lg_sl ([.ref q_j, .int x1])).length) Slot.unset).toArray = ls at hl ⊢
  replace hl : lv_has ls 4 [(0, .ref q_j), (1, .int x1)] := hl
  unfold m_Mo_know at hm
  refine lv_aload_n hx hb d_Mo_know_0 rfl (lv_at hl 0 rfl) ?_
  refine tp_get (v := .int j_known) (C := R_Mo) (T := T_Mo) hx hb hts fw_Mo hown hw 0 rfl rfl 8 (by decide +kernel) (hts _ wd_367) rfl d_Mo_know_1 ?_
  refine lv_iconst (v := (1 : Int32)) hx hb d_Mo_know_4 (by decide +kernel) ?_
  refine lv_iadd hx hb d_Mo_know_5 ?_
  refine lv_istore_n (lv' := [(2, .int (j_known + (1 : Int32))), (0, .ref q_j), (1, .int x1)]) hx hb d_Mo_know_6 rfl hl (by decide +kernel) rfl (fun ls hl => ?_)
  exact w_Mo_know_7 hF2  N _ _ _ _ _ _ _ _ hm hw (lv_sub hl [1, 2, 0] rfl)
end
abbrev rm_Mo_putCopies : Room := { frames := 3, cells := 0, slots := 0, locals := 68 }
abbrev ws_Mo_putCopies : List Cond := .code y_Mo_putCopies c_Mo_putCopies 6 none :: tpG
noncomputable def m_Mo_putCopies_42 (N : Nat) (rec21 : Int32 → Int32 → Int32 → Int32 → Int32 → (Nat → Int32) → (Nat → Int32) → (Nat → Int32) → Option (Int32 × Int32 × (Nat → Int32) × (Nat → Int32) × (Nat → Int32))) (rec42 : Int32 → Int32 → Int32 → Int32 → Int32 → Int32 → (Nat → Int32) → (Nat → Int32) → (Nat → Int32) → Option (Int32 × Int32 × (Nat → Int32) × (Nat → Int32) × (Nat → Int32))) (x2 : Int32) (x3 : Int32) (x4 : Int32) (x5 : Int32) (j_made : Int32) (j_known : Int32) (jm_f : Nat → Int32) (jn_f : Nat → Int32) (jf_f : Nat → Int32) : Option (Int32 × Int32 × (Nat → Int32) × (Nat → Int32) × (Nat → Int32)) :=
  tp_b1 (m_Mo_tried x4 x5 x3 jn_f jf_f) fun r8 =>
  tp_b1 (m_Mo_fewest x4 x3 jn_f jf_f) fun r10 =>
  if r8 ≤ r10 then
    tp_b1 (m_Mo_bytesFor x5 x3) fun r13 =>
    if r13 = (2 : Int32) then
      tp_b2 (m_Mo_put ((1 : Int32) + ((4 : Int32) * ((x5 - (4 : Int32)) + ((8 : Int32) * (x2 / (256 : Int32)))))) j_made jm_f) fun j_made_22 jm_f_23 =>
      tp_b2 (m_Mo_put x2 j_made_22 jm_f_23) fun j_made_25 jm_f_26 =>
      rec21 x2 x3 (x4 - x5) j_made_25 j_known jm_f_26 jn_f jf_f
    else
      tp_b2 (m_Mo_put ((2 : Int32) + ((4 : Int32) * (x5 - (1 : Int32)))) j_made jm_f) fun j_made_16 jm_f_17 =>
      tp_b2 (m_Mo_putNumber N x2 (2 : Int32) j_made_16 jm_f_17) fun j_made_19 jm_f_20 =>
      rec21 x2 x3 (x4 - x5) j_made_19 j_known jm_f_20 jn_f jf_f
  else
    rec42 x2 x3 x4 (x5 + (-1 : Int32)) j_made j_known jm_f jn_f jf_f
noncomputable def m_Mo_putCopies_21 (N : Nat) (rec21 : Int32 → Int32 → Int32 → Int32 → Int32 → (Nat → Int32) → (Nat → Int32) → (Nat → Int32) → Option (Int32 × Int32 × (Nat → Int32) × (Nat → Int32) × (Nat → Int32))) (x2 : Int32) (x3 : Int32) (x4 : Int32) (j_made : Int32) (j_known : Int32) (jm_f : Nat → Int32) (jn_f : Nat → Int32) (jf_f : Nat → Int32) : Option (Int32 × Int32 × (Nat → Int32) × (Nat → Int32) × (Nat → Int32)) :=
  if x4 ≤ 0 then
    some (j_made, j_known, jm_f, jn_f, jf_f)
  else
    if (64 : Int32) ≤ x4 then
      tp_it9 (m_Mo_putCopies_42 N rec21) N x2 x3 x4 (64 : Int32) j_made j_known jm_f jn_f jf_f
    else
      tp_it9 (m_Mo_putCopies_42 N rec21) N x2 x3 x4 x4 j_made j_known jm_f jn_f jf_f
noncomputable def m_Mo_putCopies (N : Nat) (x1 : Int32) (x2 : Int32) (j_made : Int32) (j_known : Int32) (jm_f : Nat → Int32) (jn_f : Nat → Int32) (jf_f : Nat → Int32) : Option (Int32 × Int32 × (Nat → Int32) × (Nat → Int32) × (Nat → Int32)) :=
  tp_b3 (m_Mo_know N x1 j_known jn_f jf_f) fun j_known_1 jn_f_2 jf_f_3 =>
  if (2048 : Int32) ≤ x2 then
    tp_it8 (m_Mo_putCopies_21 N ) N x2 (0 : Int32) x1 j_made j_known_1 jm_f jn_f_2 jf_f_3
  else
    tp_it8 (m_Mo_putCopies_21 N ) N x2 (1 : Int32) x1 j_made j_known_1 jm_f jn_f_2 jf_f_3
section
variable {p : Program} {l : Launch} {e : Env} {s : State} {m : MethodId} {args : Array Value} {below : List Frame} {meth : Method} {c : Code} {A : Nat → Prop} {D : va_G} {cB cI : ClassId} {tM : Nat}
set_option maxHeartbeats 4000000 in
set_option maxRecDepth 100000 in
theorem w_Mo_putCopies_42 {q_j q_ji q_jo q_jm q_jn q_jf : Nat} {j_in : Int32} {j_out : Int32} {j_fat : Int32} {j_flong : Int32} {j_told : Int32} {j_at : Int32} {j_end : Int32} {j_fault : Int32} {j_fp : Int32} {ji_f : Nat → Int32} {jo_f : Nat → Int32} {N : Nat} {j_made' : Int32} {j_known' : Int32} {jm_f' : Nat → Int32} {jn_f' : Nat → Int32} {jf_f' : Nat → Int32} {rec21 : Int32 → Int32 → Int32 → Int32 → Int32 → (Nat → Int32) → (Nat → Int32) → (Nat → Int32) → Option (Int32 × Int32 × (Nat → Int32) × (Nat → Int32) × (Nat → Int32))} (hF2 : tp_F p m c c_Mo_putCopies 6 s args tpG R_Mo meth none) (ih21 : ∀ (x2 : Int32) (x3 : Int32) (x4 : Int32) (j_made : Int32) (j_known : Int32) (jm_f : Nat → Int32) (jn_f : Nat → Int32) (jf_f : Nat → Int32) (H : Heap) (locs : List Loc) (ls : Array Slot), rec21 x2 x3 x4 j_made j_known jm_f jn_f jf_f = some (j_made', j_known', jm_f', jn_f', jf_f') → tp_Wd D (tp_ty cB cI) tM A s H locs [(q_j, .inr (7, [.ref q_ji, .int j_in, .ref q_jo, .int j_out, .ref q_jm, .int j_made, .ref q_jn, .ref q_jf, .int j_known, .int j_fat, .int j_flong, .int j_told, .int j_at, .int j_end, .int j_fault, .int j_fp])), (q_ji, .inl (cB, 10000, .inl ji_f)), (q_jo, .inl (cB, 10000, .inl jo_f)), (q_jm, .inl (cB, 20000, .inl jm_f)), (q_jn, .inl (cI, 10001, .inl jn_f)), (q_jf, .inl (cI, 10001, .inl jf_f))] → lv_has ls 6 [(0, .ref q_j), (2, .int x2), (3, .int x3), (4, .int x4)] → W p l e rm_Mo_putCopies s m args below meth c H locs 0 0 (MQ below (tp_Qv (S := Unit) D A (fun _ => [(q_j, .inr (7, [.ref q_ji, .int j_in, .ref q_jo, .int j_out, .ref q_jm, .int j_made', .ref q_jn, .ref q_jf, .int j_known', .int j_fat, .int j_flong, .int j_told, .int j_at, .int j_end, .int j_fault, .int j_fp])), (q_ji, .inl (cB, 10000, .inl ji_f)), (q_jo, .inl (cB, 10000, .inl jo_f)), (q_jm, .inl (cB, 20000, .inl jm_f')), (q_jn, .inl (cI, 10001, .inl jn_f')), (q_jf, .inl (cI, 10001, .inl jf_f'))])) args s 0 0 A) (F0 m 21 ls [])) : ∀ (n : Nat), ∀ (x2 : Int32) (x3 : Int32) (x4 : Int32) (x5 : Int32) (j_made : Int32) (j_known : Int32) (jm_f : Nat → Int32) (jn_f : Nat → Int32) (jf_f : Nat → Int32) (H : Heap) (locs : List Loc) (ls : Array Slot), tp_it9 (m_Mo_putCopies_42 N rec21) n x2 x3 x4 x5 j_made j_known jm_f jn_f jf_f = some (j_made', j_known', jm_f', jn_f', jf_f') → tp_Wd D (tp_ty cB cI) tM A s H locs [(q_j, .inr (7, [.ref q_ji, .int j_in, .ref q_jo, .int j_out, .ref q_jm, .int j_made, .ref q_jn, .ref q_jf, .int j_known, .int j_fat, .int j_flong, .int j_told, .int j_at, .int j_end, .int j_fault, .int j_fp])), (q_ji, .inl (cB, 10000, .inl ji_f)), (q_jo, .inl (cB, 10000, .inl jo_f)), (q_jm, .inl (cB, 20000, .inl jm_f)), (q_jn, .inl (cI, 10001, .inl jn_f)), (q_jf, .inl (cI, 10001, .inl jf_f))] → lv_has ls 6 [(0, .ref q_j), (2, .int x2), (3, .int x3), (4, .int x4), (5, .int x5)] → W p l e rm_Mo_putCopies s m args below meth c H locs 0 0 (MQ below (tp_Qv (S := Unit) D A (fun _ => [(q_j, .inr (7, [.ref q_ji, .int j_in, .ref q_jo, .int j_out, .ref q_jm, .int j_made', .ref q_jn, .ref q_jf, .int j_known', .int j_fat, .int j_flong, .int j_told, .int j_at, .int j_end, .int j_fault, .int j_fp])), (q_ji, .inl (cB, 10000, .inl ji_f)), (q_jo, .inl (cB, 10000, .inl jo_f)), (q_jm, .inl (cB, 20000, .inl jm_f')), (q_jn, .inl (cI, 10001, .inl jn_f')), (q_jf, .inl (cI, 10001, .inl jf_f'))])) args s 0 0 A) (F0 m 42 ls []) := by
  obtain ⟨hF, hr, hlocks⟩ := id hF2
  obtain ⟨hx, hb, hml, hown, hts⟩ := id hF
  intro n
  induction n with
  | zero => intro x2 x3 x4 x5 j_made j_known jm_f jn_f jf_f H locs ls hm; exact absurd hm (by simp [tp_it9])
  | succ n ih42 =>
    intro x2 x3 x4 x5 j_made j_known jm_f jn_f jf_f H locs ls hm hw hl
    replace hm : m_Mo_putCopies_42 N rec21 (tp_it9 (m_Mo_putCopies_42 N rec21) n) x2 x3 x4 x5 j_made j_known jm_f jn_f jf_f = some (j_made', j_known', jm_f', jn_f', jf_f') := hm
    unfold m_Mo_putCopies_42 at hm
    refine lv_aload_n hx hb d_Mo_putCopies_42 rfl (lv_at hl 0 rfl) ?_
    refine lv_iload hx hb d_Mo_putCopies_43 (lv_at hl 3 rfl) ?_
    refine lv_iload hx hb d_Mo_putCopies_45 (lv_at hl 4 rfl) ?_
    refine lv_iload_n hx hb d_Mo_putCopies_47 rfl (lv_at hl 2 rfl) ?_
    obtain ⟨r8, hm9, hm⟩ := tp_b1_e hm
    refine tp_calli (wr := []) (WS' := [(q_j, .inr (7, [.ref q_ji, .int j_in, .ref q_jo, .int j_out, .ref q_jm, .int j_made, .ref q_jn, .ref q_jf, .int j_known, .int j_fat, .int j_flong, .int j_told, .int j_at, .int j_end, .int j_fault, .int j_fp])), (q_ji, .inl (cB, 10000, .inl ji_f)), (q_jo, .inl (cB, 10000, .inl jo_f)), (q_jm, .inl (cB, 20000, .inl jm_f)), (q_jn, .inl (cI, 10001, .inl jn_f)), (q_jf, .inl (cI, 10001, .inl jf_f))]) (va_runV (As := [.int x4, .int x5, .int x3]) (rest := []) hF (ct_Mo_tried (l := l) (D := D) (cB := cB) (cI := cI) (tM := tM) (q_j := q_j) (q_ji := q_ji) (q_jo := q_jo) (q_jm := q_jm) (q_jn := q_jn) (q_jf := q_jf) (j_in := j_in) (j_out := j_out) (j_made := j_made) (j_known := j_known) (j_fat := j_fat) (j_flong := j_flong) (j_told := j_told) (j_at := j_at) (j_end := j_end) (j_fault := j_fault) (j_fp := j_fp) (ji_f := ji_f) (jo_f := jo_f) (jm_f := jm_f) (jn_f := jn_f) (jf_f := jf_f) (x1 := x4) (x2 := x5) (x3 := x3) (r := r8) hm9 _) (cwV 3 hts (tpG_V wd_370 wd_371 wd_372 wd_340 wd_369) rfl rfl rfl ⟨rfl, yd_Mo_tried⟩ ⟨Nat.le_of_ble_eq_true rfl, Nat.le_of_ble_eq_true rfl⟩) ⟨tp_blind, va_recv hw.1 hw.2.1 (ci := 7) (q0 := 0) rfl rfl, tp_pre hw [0, 1, 2, 3, 4, 5] rfl rfl⟩ rfl rfl hl.1 rfl (lv_room (Nat.le_of_ble_eq_true rfl)) d_Mo_putCopies_48 ⟨Nat.le_of_ble_eq_true rfl, Nat.le_of_ble_eq_true rfl⟩) hw [0, 1, 2, 3, 4, 5] [] [0, 1, 2, 3, 4, 5] rfl rfl rfl (by decide) rfl rfl (fun H locs hw => ?_)
    refine lv_aload_n hx hb d_Mo_putCopies_51 rfl (lv_at hl 0 rfl) ?_
    refine lv_iload hx hb d_Mo_putCopies_52 (lv_at hl 3 rfl) ?_
    refine lv_iload_n hx hb d_Mo_putCopies_54 rfl (lv_at hl 2 rfl) ?_
    obtain ⟨r10, hm11, hm⟩ := tp_b1_e hm
    refine tp_calli (wr := []) (WS' := [(q_j, .inr (7, [.ref q_ji, .int j_in, .ref q_jo, .int j_out, .ref q_jm, .int j_made, .ref q_jn, .ref q_jf, .int j_known, .int j_fat, .int j_flong, .int j_told, .int j_at, .int j_end, .int j_fault, .int j_fp])), (q_ji, .inl (cB, 10000, .inl ji_f)), (q_jo, .inl (cB, 10000, .inl jo_f)), (q_jm, .inl (cB, 20000, .inl jm_f)), (q_jn, .inl (cI, 10001, .inl jn_f)), (q_jf, .inl (cI, 10001, .inl jf_f))]) (va_runV (As := [.int x4, .int x3]) (rest := [.int r8]) hF (ct_Mo_fewest (l := l) (D := D) (cB := cB) (cI := cI) (tM := tM) (q_j := q_j) (q_ji := q_ji) (q_jo := q_jo) (q_jm := q_jm) (q_jn := q_jn) (q_jf := q_jf) (j_in := j_in) (j_out := j_out) (j_made := j_made) (j_known := j_known) (j_fat := j_fat) (j_flong := j_flong) (j_told := j_told) (j_at := j_at) (j_end := j_end) (j_fault := j_fault) (j_fp := j_fp) (ji_f := ji_f) (jo_f := jo_f) (jm_f := jm_f) (jn_f := jn_f) (jf_f := jf_f) (x1 := x4) (x2 := x3) (r := r10) hm11 _) (cwV 2 hts (tpG_V wd_364 wd_365 wd_366 wd_340 wd_363) rfl rfl rfl ⟨rfl, yd_Mo_fewest⟩ ⟨Nat.le_of_ble_eq_true rfl, Nat.le_of_ble_eq_true rfl⟩) ⟨tp_blind, va_recv hw.1 hw.2.1 (ci := 7) (q0 := 0) rfl rfl, tp_pre hw [0, 1, 2, 3, 4, 5] rfl rfl⟩ rfl rfl hl.1 rfl (lv_room (Nat.le_of_ble_eq_true rfl)) d_Mo_putCopies_55 ⟨Nat.le_of_ble_eq_true rfl, Nat.le_of_ble_eq_true rfl⟩) hw [0, 1, 2, 3, 4, 5] [] [0, 1, 2, 3, 4, 5] rfl rfl rfl (by decide) rfl rfl (fun H locs hw => ?_)
    refine lv_icmp_le (tgt := 67) hx hb d_Mo_putCopies_58 (by decide +kernel) (fun hc12 => ?_) (fun hc12 => ?_)
    · replace hm := tp_it hc12 hm
      refine lv_iload hx hb d_Mo_putCopies_67 (lv_at hl 4 rfl) ?_
      refine lv_iload_n hx hb d_Mo_putCopies_69 rfl (lv_at hl 2 rfl) ?_
      obtain ⟨r13, hm14, hm⟩ := tp_b1_e hm
      refine tp_calli (wr := [(q_j, .inr (7, [.ref q_ji, .int j_in, .ref q_jo, .int j_out, .ref q_jm, .int j_made, .ref q_jn, .ref q_jf, .int j_known, .int j_fat, .int j_flong, .int j_told, .int j_at, .int j_end, .int j_fault, .int j_fp])), (q_ji, .inl (cB, 10000, .inl ji_f)), (q_jo, .inl (cB, 10000, .inl jo_f)), (q_jm, .inl (cB, 20000, .inl jm_f)), (q_jn, .inl (cI, 10001, .inl jn_f)), (q_jf, .inl (cI, 10001, .inl jf_f))]) (WS' := [(q_j, .inr (7, [.ref q_ji, .int j_in, .ref q_jo, .int j_out, .ref q_jm, .int j_made, .ref q_jn, .ref q_jf, .int j_known, .int j_fat, .int j_flong, .int j_told, .int j_at, .int j_end, .int j_fault, .int j_fp])), (q_ji, .inl (cB, 10000, .inl ji_f)), (q_jo, .inl (cB, 10000, .inl jo_f)), (q_jm, .inl (cB, 20000, .inl jm_f)), (q_jn, .inl (cI, 10001, .inl jn_f)), (q_jf, .inl (cI, 10001, .inl jf_f))]) (va_runS (As := [.int x5, .int x3]) (rest := []) hF (ct_Mo_bytesFor (l := l) (D := D) (cB := cB) (cI := cI) (tM := tM) (x0 := x5) (x1 := x3) (r := r13) hm14 _) (va_cwS 2 hts (tpG_S wd_361 wd_362 wd_340 wd_360) rfl rfl rfl yd_Mo_bytesFor ⟨Nat.le_of_ble_eq_true rfl, Nat.le_of_ble_eq_true rfl⟩) ⟨tp_blind, tp_pre hw [] rfl rfl⟩ rfl rfl hl.1 rfl (lv_room (Nat.le_of_ble_eq_true rfl)) d_Mo_putCopies_70 ⟨Nat.le_of_ble_eq_true rfl, Nat.le_of_ble_eq_true rfl⟩) hw [] [0, 1, 2, 3, 4, 5] [0, 1, 2, 3, 4, 5] rfl rfl rfl (by decide) rfl rfl (fun H locs hw => ?_)
      refine lv_iconst (v := (2 : Int32)) hx hb d_Mo_putCopies_73 (by decide +kernel) ?_
      refine lv_icmp_ne (tgt := 106) hx hb d_Mo_putCopies_74 (by decide +kernel) (fun hc15 => ?_) (fun hc15 => ?_)
      · replace hm := tp_if hc15 hm
        refine lv_aload_n hx hb d_Mo_putCopies_106 rfl (lv_at hl 0 rfl) ?_
        refine lv_iconst (v := (2 : Int32)) hx hb d_Mo_putCopies_107 (by decide +kernel) ?_
        refine lv_iconst (v := (4 : Int32)) hx hb d_Mo_putCopies_108 (by decide +kernel) ?_
        refine lv_iload hx hb d_Mo_putCopies_109 (lv_at hl 4 rfl) ?_
        refine lv_iconst (v := (1 : Int32)) hx hb d_Mo_putCopies_111 (by decide +kernel) ?_
        refine lv_isub hx hb d_Mo_putCopies_112 ?_
        refine lv_imul hx hb d_Mo_putCopies_113 ?_
        refine lv_iadd hx hb d_Mo_putCopies_114 ?_
        obtain ⟨j_made_16, jm_f_17, hm18, hm⟩ := tp_b2_e hm
        refine tp_callv (wr := []) (WS' := [(q_j, .inr (7, [.ref q_ji, .int j_in, .ref q_jo, .int j_out, .ref q_jm, .int j_made_16, .ref q_jn, .ref q_jf, .int j_known, .int j_fat, .int j_flong, .int j_told, .int j_at, .int j_end, .int j_fault, .int j_fp])), (q_ji, .inl (cB, 10000, .inl ji_f)), (q_jo, .inl (cB, 10000, .inl jo_f)), (q_jm, .inl (cB, 20000, .inl jm_f_17)), (q_jn, .inl (cI, 10001, .inl jn_f)), (q_jf, .inl (cI, 10001, .inl jf_f))]) (va_runV (As := [.int ((2 : Int32) + ((4 : Int32) * (x5 - (1 : Int32))))]) (rest := []) hF (ct_Mo_put (l := l) (D := D) (cB := cB) (cI := cI) (tM := tM) (q_j := q_j) (q_ji := q_ji) (q_jo := q_jo) (q_jm := q_jm) (q_jn := q_jn) (q_jf := q_jf) (j_in := j_in) (j_out := j_out) (j_made := j_made) (j_known := j_known) (j_fat := j_fat) (j_flong := j_flong) (j_told := j_told) (j_at := j_at) (j_end := j_end) (j_fault := j_fault) (j_fp := j_fp) (ji_f := ji_f) (jo_f := jo_f) (jm_f := jm_f) (jn_f := jn_f) (jf_f := jf_f) (x1 := ((2 : Int32) + ((4 : Int32) * (x5 - (1 : Int32))))) (j_made' := j_made_16) (jm_f' := jm_f_17) hm18 _) (cwV 1 hts (tpG_V wd_341 wd_342 wd_343 wd_340 wd_339) rfl rfl rfl ⟨rfl, yd_Mo_put⟩ ⟨Nat.le_of_ble_eq_true rfl, Nat.le_of_ble_eq_true rfl⟩) ⟨tp_blind, va_recv hw.1 hw.2.1 (ci := 7) (q0 := 0) rfl rfl, tp_pre hw [0, 1, 2, 3, 4, 5] rfl rfl⟩ rfl rfl hl.1 rfl (lv_room (Nat.le_of_ble_eq_true rfl)) d_Mo_putCopies_115 ⟨Nat.le_of_ble_eq_true rfl, Nat.le_of_ble_eq_true rfl⟩) hw [0, 1, 2, 3, 4, 5] [] [0, 1, 2, 3, 4, 5] rfl rfl rfl (by decide) rfl rfl (fun H locs hw => ?_)
        refine lv_aload_n hx hb d_Mo_putCopies_118 rfl (lv_at hl 0 rfl) ?_
        refine lv_iload_n hx hb d_Mo_putCopies_119 rfl (lv_at hl 1 rfl) ?_
        refine lv_iconst (v := (2 : Int32)) hx hb d_Mo_putCopies_120 (by decide +kernel) ?_
        obtain ⟨j_made_19, jm_f_20, hm21, hm⟩ := tp_b2_e hm
        refine tp_callv (wr := []) (WS' := [(q_j, .inr (7, [.ref q_ji, .int j_in, .ref q_jo, .int j_out, .ref q_jm, .int j_made_19, .ref q_jn, .ref q_jf, .int j_known, .int j_fat, .int j_flong, .int j_told, .int j_at, .int j_end, .int j_fault, .int j_fp])), (q_ji, .inl (cB, 10000, .inl ji_f)), (q_jo, .inl (cB, 10000, .inl jo_f)), (q_jm, .inl (cB, 20000, .inl jm_f_20)), (q_jn, .inl (cI, 10001, .inl jn_f)), (q_jf, .inl (cI, 10001, .inl jf_f))]) (va_runV (As := [.int x2, .int (2 : Int32)]) (rest := []) hF (ct_Mo_putNumber (l := l) (D := D) (cB := cB) (cI := cI) (tM := tM) (q_j := q_j) (q_ji := q_ji) (q_jo := q_jo) (q_jm := q_jm) (q_jn := q_jn) (q_jf := q_jf) (j_in := j_in) (j_out := j_out) (j_made := j_made_16) (j_known := j_known) (j_fat := j_fat) (j_flong := j_flong) (j_told := j_told) (j_at := j_at) (j_end := j_end) (j_fault := j_fault) (j_fp := j_fp) (ji_f := ji_f) (jo_f := jo_f) (jm_f := jm_f_17) (jn_f := jn_f) (jf_f := jf_f) (x1 := x2) (x2 := (2 : Int32)) (N := N) (j_made' := j_made_19) (jm_f' := jm_f_20) hm21 _) (cwV 2 hts (tpG_V wd_378 wd_379 wd_380 wd_340 wd_377) rfl rfl rfl ⟨rfl, yd_Mo_putNumber⟩ ⟨Nat.le_of_ble_eq_true rfl, Nat.le_of_ble_eq_true rfl⟩) ⟨tp_blind, va_recv hw.1 hw.2.1 (ci := 7) (q0 := 0) rfl rfl, tp_pre hw [0, 1, 2, 3, 4, 5] rfl rfl⟩ rfl rfl hl.1 rfl (lv_room (Nat.le_of_ble_eq_true rfl)) d_Mo_putCopies_121 ⟨Nat.le_of_ble_eq_true rfl, Nat.le_of_ble_eq_true rfl⟩) hw [0, 1, 2, 3, 4, 5] [] [0, 1, 2, 3, 4, 5] rfl rfl rfl (by decide) rfl rfl (fun H locs hw => ?_)
        refine lv_iload hx hb d_Mo_putCopies_124 (lv_at hl 3 rfl) ?_
        refine lv_iload hx hb d_Mo_putCopies_126 (lv_at hl 4 rfl) ?_
        refine lv_isub hx hb d_Mo_putCopies_128 ?_
        refine lv_istore (lv' := [(4, .int (x4 - x5)), (0, .ref q_j), (2, .int x2), (3, .int x3), (5, .int x5)]) hx hb d_Mo_putCopies_129 hl (by decide +kernel) rfl (fun ls hl => ?_)
        refine lv_goto (tgt := 21) hx hb d_Mo_putCopies_131 (by decide +kernel) ?_
        exact ih21 _ _ _ _ _ _ _ _ _ _ _ hm hw (lv_sub hl [1, 2, 3, 0] rfl)
      · replace hm := tp_it hc15 hm
        refine lv_aload_n hx hb d_Mo_putCopies_77 rfl (lv_at hl 0 rfl) ?_
        refine lv_iconst (v := (1 : Int32)) hx hb d_Mo_putCopies_78 (by decide +kernel) ?_
        refine lv_iconst (v := (4 : Int32)) hx hb d_Mo_putCopies_79 (by decide +kernel) ?_
        refine lv_iload hx hb d_Mo_putCopies_80 (lv_at hl 4 rfl) ?_
        refine lv_iconst (v := (4 : Int32)) hx hb d_Mo_putCopies_82 (by decide +kernel) ?_
        refine lv_isub hx hb d_Mo_putCopies_83 ?_
        refine lv_bipush (v := (8 : Int32)) hx hb d_Mo_putCopies_84 (by decide +kernel) ?_
        refine lv_iload_n hx hb d_Mo_putCopies_86 rfl (lv_at hl 1 rfl) ?_
        refine lv_sipush (v := (256 : Int32)) hx hb d_Mo_putCopies_87 (by decide +kernel) ?_
        refine lv_idiv hx hb d_Mo_putCopies_90 (by decide +kernel) ?_
        refine lv_imul hx hb d_Mo_putCopies_91 ?_
        refine lv_iadd hx hb d_Mo_putCopies_92 ?_
        refine lv_imul hx hb d_Mo_putCopies_93 ?_
        refine lv_iadd hx hb d_Mo_putCopies_94 ?_
        obtain ⟨j_made_22, jm_f_23, hm24, hm⟩ := tp_b2_e hm
        refine tp_callv (wr := []) (WS' := [(q_j, .inr (7, [.ref q_ji, .int j_in, .ref q_jo, .int j_out, .ref q_jm, .int j_made_22, .ref q_jn, .ref q_jf, .int j_known, .int j_fat, .int j_flong, .int j_told, .int j_at, .int j_end, .int j_fault, .int j_fp])), (q_ji, .inl (cB, 10000, .inl ji_f)), (q_jo, .inl (cB, 10000, .inl jo_f)), (q_jm, .inl (cB, 20000, .inl jm_f_23)), (q_jn, .inl (cI, 10001, .inl jn_f)), (q_jf, .inl (cI, 10001, .inl jf_f))]) (va_runV (As := [.int ((1 : Int32) + ((4 : Int32) * ((x5 - (4 : Int32)) + ((8 : Int32) * (x2 / (256 : Int32))))))]) (rest := []) hF (ct_Mo_put (l := l) (D := D) (cB := cB) (cI := cI) (tM := tM) (q_j := q_j) (q_ji := q_ji) (q_jo := q_jo) (q_jm := q_jm) (q_jn := q_jn) (q_jf := q_jf) (j_in := j_in) (j_out := j_out) (j_made := j_made) (j_known := j_known) (j_fat := j_fat) (j_flong := j_flong) (j_told := j_told) (j_at := j_at) (j_end := j_end) (j_fault := j_fault) (j_fp := j_fp) (ji_f := ji_f) (jo_f := jo_f) (jm_f := jm_f) (jn_f := jn_f) (jf_f := jf_f) (x1 := ((1 : Int32) + ((4 : Int32) * ((x5 - (4 : Int32)) + ((8 : Int32) * (x2 / (256 : Int32))))))) (j_made' := j_made_22) (jm_f' := jm_f_23) hm24 _) (cwV 1 hts (tpG_V wd_341 wd_342 wd_343 wd_340 wd_339) rfl rfl rfl ⟨rfl, yd_Mo_put⟩ ⟨Nat.le_of_ble_eq_true rfl, Nat.le_of_ble_eq_true rfl⟩) ⟨tp_blind, va_recv hw.1 hw.2.1 (ci := 7) (q0 := 0) rfl rfl, tp_pre hw [0, 1, 2, 3, 4, 5] rfl rfl⟩ rfl rfl hl.1 rfl (lv_room (Nat.le_of_ble_eq_true rfl)) d_Mo_putCopies_95 ⟨Nat.le_of_ble_eq_true rfl, Nat.le_of_ble_eq_true rfl⟩) hw [0, 1, 2, 3, 4, 5] [] [0, 1, 2, 3, 4, 5] rfl rfl rfl (by decide) rfl rfl (fun H locs hw => ?_)
        refine lv_aload_n hx hb d_Mo_putCopies_98 rfl (lv_at hl 0 rfl) ?_
        refine lv_iload_n hx hb d_Mo_putCopies_99 rfl (lv_at hl 1 rfl) ?_
        obtain ⟨j_made_25, jm_f_26, hm27, hm⟩ := tp_b2_e hm
        refine tp_callv (wr := []) (WS' := [(q_j, .inr (7, [.ref q_ji, .int j_in, .ref q_jo, .int j_out, .ref q_jm, .int j_made_25, .ref q_jn, .ref q_jf, .int j_known, .int j_fat, .int j_flong, .int j_told, .int j_at, .int j_end, .int j_fault, .int j_fp])), (q_ji, .inl (cB, 10000, .inl ji_f)), (q_jo, .inl (cB, 10000, .inl jo_f)), (q_jm, .inl (cB, 20000, .inl jm_f_26)), (q_jn, .inl (cI, 10001, .inl jn_f)), (q_jf, .inl (cI, 10001, .inl jf_f))]) (va_runV (As := [.int x2]) (rest := []) hF (ct_Mo_put (l := l) (D := D) (cB := cB) (cI := cI) (tM := tM) (q_j := q_j) (q_ji := q_ji) (q_jo := q_jo) (q_jm := q_jm) (q_jn := q_jn) (q_jf := q_jf) (j_in := j_in) (j_out := j_out) (j_made := j_made_22) (j_known := j_known) (j_fat := j_fat) (j_flong := j_flong) (j_told := j_told) (j_at := j_at) (j_end := j_end) (j_fault := j_fault) (j_fp := j_fp) (ji_f := ji_f) (jo_f := jo_f) (jm_f := jm_f_23) (jn_f := jn_f) (jf_f := jf_f) (x1 := x2) (j_made' := j_made_25) (jm_f' := jm_f_26) hm27 _) (cwV 1 hts (tpG_V wd_341 wd_342 wd_343 wd_340 wd_339) rfl rfl rfl ⟨rfl, yd_Mo_put⟩ ⟨Nat.le_of_ble_eq_true rfl, Nat.le_of_ble_eq_true rfl⟩) ⟨tp_blind, va_recv hw.1 hw.2.1 (ci := 7) (q0 := 0) rfl rfl, tp_pre hw [0, 1, 2, 3, 4, 5] rfl rfl⟩ rfl rfl hl.1 rfl (lv_room (Nat.le_of_ble_eq_true rfl)) d_Mo_putCopies_100 ⟨Nat.le_of_ble_eq_true rfl, Nat.le_of_ble_eq_true rfl⟩) hw [0, 1, 2, 3, 4, 5] [] [0, 1, 2, 3, 4, 5] rfl rfl rfl (by decide) rfl rfl (fun H locs hw => ?_)
        refine lv_goto (tgt := 124) hx hb d_Mo_putCopies_103 (by decide +kernel) ?_
        refine lv_iload hx hb d_Mo_putCopies_124 (lv_at hl 3 rfl) ?_
        refine lv_iload hx hb d_Mo_putCopies_126 (lv_at hl 4 rfl) ?_
        refine lv_isub hx hb d_Mo_putCopies_128 ?_
        refine lv_istore (lv' := [(4, .int (x4 - x5)), (0, .ref q_j), (2, .int x2), (3, .int x3), (5, .int x5)]) hx hb d_Mo_putCopies_129 hl (by decide +kernel) rfl (fun ls hl => ?_)
        refine lv_goto (tgt := 21) hx hb d_Mo_putCopies_131 (by decide +kernel) ?_
        exact ih21 _ _ _ _ _ _ _ _ _ _ _ hm hw (lv_sub hl [1, 2, 3, 0] rfl)
    · replace hm := tp_if hc12 hm
      refine lv_iinc (v := (x5 + (-1 : Int32))) (lv' := [(5, .int (x5 + (-1 : Int32))), (0, .ref q_j), (2, .int x2), (3, .int x3), (4, .int x4)]) hx hb d_Mo_putCopies_61 hl (k := 4) rfl rfl (by decide +kernel) rfl (fun ls hl => ?_)
      refine lv_goto (tgt := 42) hx hb d_Mo_putCopies_64 (by decide +kernel) ?_
      exact ih42 _ _ _ _ _ _ _ _ _ _ _ _ hm hw (lv_sub hl [1, 2, 3, 4, 0] rfl)
set_option maxHeartbeats 4000000 in
set_option maxRecDepth 100000 in
theorem w_Mo_putCopies_21 {q_j q_ji q_jo q_jm q_jn q_jf : Nat} {j_in : Int32} {j_out : Int32} {j_fat : Int32} {j_flong : Int32} {j_told : Int32} {j_at : Int32} {j_end : Int32} {j_fault : Int32} {j_fp : Int32} {ji_f : Nat → Int32} {jo_f : Nat → Int32} {N : Nat} {j_made' : Int32} {j_known' : Int32} {jm_f' : Nat → Int32} {jn_f' : Nat → Int32} {jf_f' : Nat → Int32} (hF2 : tp_F p m c c_Mo_putCopies 6 s args tpG R_Mo meth none) : ∀ (n : Nat), ∀ (x2 : Int32) (x3 : Int32) (x4 : Int32) (j_made : Int32) (j_known : Int32) (jm_f : Nat → Int32) (jn_f : Nat → Int32) (jf_f : Nat → Int32) (H : Heap) (locs : List Loc) (ls : Array Slot), tp_it8 (m_Mo_putCopies_21 N ) n x2 x3 x4 j_made j_known jm_f jn_f jf_f = some (j_made', j_known', jm_f', jn_f', jf_f') → tp_Wd D (tp_ty cB cI) tM A s H locs [(q_j, .inr (7, [.ref q_ji, .int j_in, .ref q_jo, .int j_out, .ref q_jm, .int j_made, .ref q_jn, .ref q_jf, .int j_known, .int j_fat, .int j_flong, .int j_told, .int j_at, .int j_end, .int j_fault, .int j_fp])), (q_ji, .inl (cB, 10000, .inl ji_f)), (q_jo, .inl (cB, 10000, .inl jo_f)), (q_jm, .inl (cB, 20000, .inl jm_f)), (q_jn, .inl (cI, 10001, .inl jn_f)), (q_jf, .inl (cI, 10001, .inl jf_f))] → lv_has ls 6 [(0, .ref q_j), (2, .int x2), (3, .int x3), (4, .int x4)] → W p l e rm_Mo_putCopies s m args below meth c H locs 0 0 (MQ below (tp_Qv (S := Unit) D A (fun _ => [(q_j, .inr (7, [.ref q_ji, .int j_in, .ref q_jo, .int j_out, .ref q_jm, .int j_made', .ref q_jn, .ref q_jf, .int j_known', .int j_fat, .int j_flong, .int j_told, .int j_at, .int j_end, .int j_fault, .int j_fp])), (q_ji, .inl (cB, 10000, .inl ji_f)), (q_jo, .inl (cB, 10000, .inl jo_f)), (q_jm, .inl (cB, 20000, .inl jm_f')), (q_jn, .inl (cI, 10001, .inl jn_f')), (q_jf, .inl (cI, 10001, .inl jf_f'))])) args s 0 0 A) (F0 m 21 ls []) := by
  obtain ⟨hF, hr, hlocks⟩ := id hF2
  obtain ⟨hx, hb, hml, hown, hts⟩ := id hF
  intro n
  induction n with
  | zero => intro x2 x3 x4 j_made j_known jm_f jn_f jf_f H locs ls hm; exact absurd hm (by simp [tp_it8])
  | succ n ih21 =>
    intro x2 x3 x4 j_made j_known jm_f jn_f jf_f H locs ls hm hw hl
    replace hm : m_Mo_putCopies_21 N  (tp_it8 (m_Mo_putCopies_21 N ) n) x2 x3 x4 j_made j_known jm_f jn_f jf_f = some (j_made', j_known', jm_f', jn_f', jf_f') := hm
    unfold m_Mo_putCopies_21 at hm
    refine lv_iload hx hb d_Mo_putCopies_21 (lv_at hl 3 rfl) ?_
    refine lv_if_le (tgt := 134) hx hb d_Mo_putCopies_23 (by decide +kernel) (fun hc6 => ?_) (fun hc6 => ?_)
    · replace hm := tp_it hc6 hm
      obtain ⟨rfl, rfl, rfl, rfl, rfl⟩ := tp_inj5 hm
      exact tp_vret () hx hb hr hlocks hw d_Mo_putCopies_134
    · replace hm := tp_if hc6 hm
      refine lv_iload hx hb d_Mo_putCopies_26 (lv_at hl 3 rfl) ?_
      refine lv_bipush (v := (64 : Int32)) hx hb d_Mo_putCopies_28 (by decide +kernel) ?_
      refine lv_icmp_ge (tgt := 38) hx hb d_Mo_putCopies_30 (by decide +kernel) (fun hc7 => ?_) (fun hc7 => ?_)
      · replace hm := tp_it hc7 hm
        refine lv_bipush (v := (64 : Int32)) hx hb d_Mo_putCopies_38 (by decide +kernel) ?_
        refine lv_istore (lv' := [(5, .int (64 : Int32)), (0, .ref q_j), (2, .int x2), (3, .int x3), (4, .int x4)]) hx hb d_Mo_putCopies_40 hl (by decide +kernel) rfl (fun ls hl => ?_)
        exact w_Mo_putCopies_42 hF2 ih21 N _ _ _ _ _ _ _ _ _ _ _ _ hm hw (lv_sub hl [1, 2, 3, 4, 0] rfl)
      · replace hm := tp_if hc7 hm
        refine lv_iload hx hb d_Mo_putCopies_33 (lv_at hl 3 rfl) ?_
        refine lv_goto (tgt := 40) hx hb d_Mo_putCopies_35 (by decide +kernel) ?_
        refine lv_istore (lv' := [(5, .int x4), (0, .ref q_j), (2, .int x2), (3, .int x3), (4, .int x4)]) hx hb d_Mo_putCopies_40 hl (by decide +kernel) rfl (fun ls hl => ?_)
        exact w_Mo_putCopies_42 hF2 ih21 N _ _ _ _ _ _ _ _ _ _ _ _ hm hw (lv_sub hl [1, 2, 3, 4, 0] rfl)
set_option maxHeartbeats 4000000 in
set_option maxRecDepth 100000 in
theorem ct_Mo_putCopies {q_j q_ji q_jo q_jm q_jn q_jf : Nat} {j_in : Int32} {j_out : Int32} {j_made : Int32} {j_known : Int32} {j_fat : Int32} {j_flong : Int32} {j_told : Int32} {j_at : Int32} {j_end : Int32} {j_fault : Int32} {j_fp : Int32} {ji_f : Nat → Int32} {jo_f : Nat → Int32} {jm_f : Nat → Int32} {jn_f : Nat → Int32} {jf_f : Nat → Int32} {N : Nat} {x1 : Int32} {x2 : Int32} {j_made' : Int32} {j_known' : Int32} {jm_f' : Nat → Int32} {jn_f' : Nat → Int32} {jf_f' : Nat → Int32} (hm : m_Mo_putCopies N x1 x2 j_made j_known jm_f jn_f jf_f = some (j_made', j_known', jm_f', jn_f', jf_f')) (sz : Nat) : tp_Cv l y_Mo_putCopies ws_Mo_putCopies rm_Mo_putCopies D (tp_ty cB cI) tM [.ref q_j, .int x1, .int x2] [(q_j, .inr (7, [.ref q_ji, .int j_in, .ref q_jo, .int j_out, .ref q_jm, .int j_made, .ref q_jn, .ref q_jf, .int j_known, .int j_fat, .int j_flong, .int j_told, .int j_at, .int j_end, .int j_fault, .int j_fp])), (q_ji, .inl (cB, 10000, .inl ji_f)), (q_jo, .inl (cB, 10000, .inl jo_f)), (q_jm, .inl (cB, 20000, .inl jm_f)), (q_jn, .inl (cI, 10001, .inl jn_f)), (q_jf, .inl (cI, 10001, .inl jf_f))] sz [(q_j, .inr (7, [.ref q_ji, .int j_in, .ref q_jo, .int j_out, .ref q_jm, .int j_made', .ref q_jn, .ref q_jf, .int j_known', .int j_fat, .int j_flong, .int j_told, .int j_at, .int j_end, .int j_fault, .int j_fp])), (q_ji, .inl (cB, 10000, .inl ji_f)), (q_jo, .inl (cB, 10000, .inl jo_f)), (q_jm, .inl (cB, 20000, .inl jm_f')), (q_jn, .inl (cI, 10001, .inl jn_f')), (q_jf, .inl (cI, 10001, .inl jf_f'))] := by
  refine Met.ofW (cc := c_Mo_putCopies) (maxL := 6) (ret := none) (by decide) rfl ?_
  intro p e s m args below meth c s₁ B hml hv
  obtain ⟨rfl, hv⟩ := hv
  have hw := tp_entry hv
  generalize va_A [(q_j, .inr (7, [.ref q_ji, .int j_in, .ref q_jo, .int j_out, .ref q_jm, .int j_made, .ref q_jn, .ref q_jf, .int j_known, .int j_fat, .int j_flong, .int j_told, .int j_at, .int j_end, .int j_fault, .int j_fp])), (q_ji, .inl (cB, 10000, .inl ji_f)), (q_jo, .inl (cB, 10000, .inl jo_f)), (q_jm, .inl (cB, 20000, .inl jm_f)), (q_jn, .inl (cI, 10001, .inl jn_f)), (q_jf, .inl (cI, 10001, .inl jf_f))] sz = A at hw ⊢
  have hx := B.exec
  have hb := B.bytes
  have hr := B.returns
  have hts0 := atoms_spec (ws := ws_Mo_putCopies) B.pre
  have hts := fun w h => hts0 w (List.mem_cons_of_mem _ h)
  have hown : s.vm.findClass R_Mo = some m.cls := findClass_of_methodNamed B.named
  have hlocks := B.notSynchronized
  have hF : CallFix p m c c_Mo_putCopies 6 s _ tpG R_Mo := ⟨hx, hb, hml, hown, hts⟩
  have hF2 : tp_F p m c c_Mo_putCopies 6 s _ tpG R_Mo meth none := ⟨hF, hr, hlocks⟩
  have hl := lv_entry ([.ref q_j, .int x1, .int x2]) (n := 6) (Nat.le_of_ble_eq_true rfl)
  rw [lg_entry_eq]
  generalize (lg_sl ([.ref q_j, .int x1, .int x2]) ++ List.replicate (6 - (lg_sl ([.ref q_j, .int x1, .int x2])).length) Slot.unset).toArray = ls at hl ⊢
  replace hl : lv_has ls 6 [(0, .ref q_j), (1, .int x1), (2, .int x2)] := hl
  unfold m_Mo_putCopies at hm
  refine lv_aload_n hx hb d_Mo_putCopies_0 rfl (lv_at hl 0 rfl) ?_
  refine lv_iload_n hx hb d_Mo_putCopies_1 rfl (lv_at hl 1 rfl) ?_
  obtain ⟨j_known_1, jn_f_2, jf_f_3, hm4, hm⟩ := tp_b3_e hm
  refine tp_callv (wr := []) (WS' := [(q_j, .inr (7, [.ref q_ji, .int j_in, .ref q_jo, .int j_out, .ref q_jm, .int j_made, .ref q_jn, .ref q_jf, .int j_known_1, .int j_fat, .int j_flong, .int j_told, .int j_at, .int j_end, .int j_fault, .int j_fp])), (q_ji, .inl (cB, 10000, .inl ji_f)), (q_jo, .inl (cB, 10000, .inl jo_f)), (q_jm, .inl (cB, 20000, .inl jm_f)), (q_jn, .inl (cI, 10001, .inl jn_f_2)), (q_jf, .inl (cI, 10001, .inl jf_f_3))]) (va_runV (As := [.int x1]) (rest := []) hF (ct_Mo_know (l := l) (D := D) (cB := cB) (cI := cI) (tM := tM) (q_j := q_j) (q_ji := q_ji) (q_jo := q_jo) (q_jm := q_jm) (q_jn := q_jn) (q_jf := q_jf) (j_in := j_in) (j_out := j_out) (j_made := j_made) (j_known := j_known) (j_fat := j_fat) (j_flong := j_flong) (j_told := j_told) (j_at := j_at) (j_end := j_end) (j_fault := j_fault) (j_fp := j_fp) (ji_f := ji_f) (jo_f := jo_f) (jm_f := jm_f) (jn_f := jn_f) (jf_f := jf_f) (x1 := x1) (N := N) (j_known' := j_known_1) (jn_f' := jn_f_2) (jf_f' := jf_f_3) hm4 _) (cwV 1 hts (tpG_V wd_374 wd_375 wd_376 wd_340 wd_373) rfl rfl rfl ⟨rfl, yd_Mo_know⟩ ⟨Nat.le_of_ble_eq_true rfl, Nat.le_of_ble_eq_true rfl⟩) ⟨tp_blind, va_recv hw.1 hw.2.1 (ci := 7) (q0 := 0) rfl rfl, tp_pre hw [0, 1, 2, 3, 4, 5] rfl rfl⟩ rfl rfl hl.1 rfl (lv_room (Nat.le_of_ble_eq_true rfl)) d_Mo_putCopies_2 ⟨Nat.le_of_ble_eq_true rfl, Nat.le_of_ble_eq_true rfl⟩) hw [0, 1, 2, 3, 4, 5] [] [0, 1, 2, 3, 4, 5] rfl rfl rfl (by decide) rfl rfl (fun H locs hw => ?_)
  refine lv_iload_n hx hb d_Mo_putCopies_5 rfl (lv_at hl 2 rfl) ?_
  refine lv_sipush (v := (2048 : Int32)) hx hb d_Mo_putCopies_6 (by decide +kernel) ?_
  refine lv_icmp_ge (tgt := 16) hx hb d_Mo_putCopies_9 (by decide +kernel) (fun hc5 => ?_) (fun hc5 => ?_)
  · replace hm := tp_it hc5 hm
    refine lv_iconst (v := (0 : Int32)) hx hb d_Mo_putCopies_16 (by decide +kernel) ?_
    refine lv_istore_n (lv' := [(3, .int (0 : Int32)), (0, .ref q_j), (1, .int x1), (2, .int x2)]) hx hb d_Mo_putCopies_17 rfl hl (by decide +kernel) rfl (fun ls hl => ?_)
    refine lv_iload_n hx hb d_Mo_putCopies_18 rfl (lv_at hl 2 rfl) ?_
    refine lv_istore (lv' := [(4, .int x1), (3, .int (0 : Int32)), (0, .ref q_j), (1, .int x1), (2, .int x2)]) hx hb d_Mo_putCopies_19 hl (by decide +kernel) rfl (fun ls hl => ?_)
    exact w_Mo_putCopies_21 hF2  N _ _ _ _ _ _ _ _ _ _ _ hm hw (lv_sub hl [2, 4, 1, 0] rfl)
  · replace hm := tp_if hc5 hm
    refine lv_iconst (v := (1 : Int32)) hx hb d_Mo_putCopies_12 (by decide +kernel) ?_
    refine lv_goto (tgt := 17) hx hb d_Mo_putCopies_13 (by decide +kernel) ?_
    refine lv_istore_n (lv' := [(3, .int (1 : Int32)), (0, .ref q_j), (1, .int x1), (2, .int x2)]) hx hb d_Mo_putCopies_17 rfl hl (by decide +kernel) rfl (fun ls hl => ?_)
    refine lv_iload_n hx hb d_Mo_putCopies_18 rfl (lv_at hl 2 rfl) ?_
    refine lv_istore (lv' := [(4, .int x1), (3, .int (1 : Int32)), (0, .ref q_j), (1, .int x1), (2, .int x2)]) hx hb d_Mo_putCopies_19 hl (by decide +kernel) rfl (fun ls hl => ?_)
    exact w_Mo_putCopies_21 hF2  N _ _ _ _ _ _ _ _ _ _ _ hm hw (lv_sub hl [2, 4, 1, 0] rfl)
end
abbrev rm_Mo_putLiterals : Room := { frames := 2, cells := 0, slots := 0, locals := 44 }
abbrev ws_Mo_putLiterals : List Cond := .code y_Mo_putLiterals c_Mo_putLiterals 6 none :: tpG
noncomputable def m_Mo_putLiterals_79 (N : Nat) (ji_f : Nat → Int32) (rec79 : Int32 → Int32 → Int32 → (Nat → Int32) → Option (Int32 × (Nat → Int32))) (x2 : Int32) (x5 : Int32) (j_made : Int32) (jm_f : Nat → Int32) : Option (Int32 × (Nat → Int32)) :=
  if x2 ≤ x5 then
    some (j_made, jm_f)
  else
    tp_gd (tp_inb x5 10000) <|
    tp_b2 (m_Mo_put (ji_f (Int32.toNatClampNeg x5)) j_made jm_f) fun j_made_20 jm_f_21 =>
    rec79 x2 (x5 + (1 : Int32)) j_made_20 jm_f_21
noncomputable def m_Mo_putLiterals_41 (N : Nat) (ji_f : Nat → Int32) (x1 : Int32) (x2 : Int32) (x3 : Int32) (k0 : Int32) (j_made : Int32) (jm_f : Nat → Int32) : Option (Int32 × (Nat → Int32)) :=
  if k0 = 0 then
    tp_b2 (m_Mo_put ((4 : Int32) * (x3 - (1 : Int32))) j_made jm_f) fun j_made_12 jm_f_13 =>
    tp_b2 (m_Mo_putNumber N (x3 - (1 : Int32)) k0 j_made_12 jm_f_13) fun j_made_15 jm_f_16 =>
    tp_it4 (m_Mo_putLiterals_79 N ji_f ) N x2 x1 j_made_15 jm_f_16
  else
    tp_b2 (m_Mo_put ((4 : Int32) * ((59 : Int32) + k0)) j_made jm_f) fun j_made_6 jm_f_7 =>
    tp_b2 (m_Mo_putNumber N (x3 - (1 : Int32)) k0 j_made_6 jm_f_7) fun j_made_9 jm_f_10 =>
    tp_it4 (m_Mo_putLiterals_79 N ji_f ) N x2 x1 j_made_9 jm_f_10
noncomputable def m_Mo_putLiterals (N : Nat) (x1 : Int32) (x2 : Int32) (j_made : Int32) (ji_f : Nat → Int32) (jm_f : Nat → Int32) : Option (Int32 × (Nat → Int32)) :=
  if (x2 - x1) = 0 then
    some (j_made, jm_f)
  else
    if (60 : Int32) < (x2 - x1) then
      if (256 : Int32) < (x2 - x1) then
        if (65536 : Int32) < (x2 - x1) then
          m_Mo_putLiterals_41 N ji_f  x1 x2 (x2 - x1) (3 : Int32) j_made jm_f
        else
          m_Mo_putLiterals_41 N ji_f  x1 x2 (x2 - x1) (2 : Int32) j_made jm_f
      else
        m_Mo_putLiterals_41 N ji_f  x1 x2 (x2 - x1) (1 : Int32) j_made jm_f
    else
      m_Mo_putLiterals_41 N ji_f  x1 x2 (x2 - x1) (0 : Int32) j_made jm_f
section
variable {p : Program} {l : Launch} {e : Env} {s : State} {m : MethodId} {args : Array Value} {below : List Frame} {meth : Method} {c : Code} {A : Nat → Prop} {D : va_G} {cB cI : ClassId} {tM : Nat}
set_option maxHeartbeats 4000000 in
set_option maxRecDepth 100000 in
theorem w_Mo_putLiterals_79 {q_j q_ji q_jo q_jm q_jn q_jf : Nat} {j_in : Int32} {j_out : Int32} {j_known : Int32} {j_fat : Int32} {j_flong : Int32} {j_told : Int32} {j_at : Int32} {j_end : Int32} {j_fault : Int32} {j_fp : Int32} {ji_f : Nat → Int32} {jo_f : Nat → Int32} {jn_f : Nat → Int32} {jf_f : Nat → Int32} {N : Nat} {j_made' : Int32} {jm_f' : Nat → Int32} (hF2 : tp_F p m c c_Mo_putLiterals 6 s args tpG R_Mo meth none) : ∀ (n : Nat), ∀ (x2 : Int32) (x5 : Int32) (j_made : Int32) (jm_f : Nat → Int32) (H : Heap) (locs : List Loc) (ls : Array Slot), tp_it4 (m_Mo_putLiterals_79 N ji_f ) n x2 x5 j_made jm_f = some (j_made', jm_f') → tp_Wd D (tp_ty cB cI) tM A s H locs [(q_j, .inr (7, [.ref q_ji, .int j_in, .ref q_jo, .int j_out, .ref q_jm, .int j_made, .ref q_jn, .ref q_jf, .int j_known, .int j_fat, .int j_flong, .int j_told, .int j_at, .int j_end, .int j_fault, .int j_fp])), (q_ji, .inl (cB, 10000, .inl ji_f)), (q_jo, .inl (cB, 10000, .inl jo_f)), (q_jm, .inl (cB, 20000, .inl jm_f)), (q_jn, .inl (cI, 10001, .inl jn_f)), (q_jf, .inl (cI, 10001, .inl jf_f))] → lv_has ls 6 [(0, .ref q_j), (2, .int x2), (5, .int x5)] → W p l e rm_Mo_putLiterals s m args below meth c H locs 0 0 (MQ below (tp_Qv (S := Unit) D A (fun _ => [(q_j, .inr (7, [.ref q_ji, .int j_in, .ref q_jo, .int j_out, .ref q_jm, .int j_made', .ref q_jn, .ref q_jf, .int j_known, .int j_fat, .int j_flong, .int j_told, .int j_at, .int j_end, .int j_fault, .int j_fp])), (q_ji, .inl (cB, 10000, .inl ji_f)), (q_jo, .inl (cB, 10000, .inl jo_f)), (q_jm, .inl (cB, 20000, .inl jm_f')), (q_jn, .inl (cI, 10001, .inl jn_f)), (q_jf, .inl (cI, 10001, .inl jf_f))])) args s 0 0 A) (F0 m 79 ls []) := by
  obtain ⟨hF, hr, hlocks⟩ := id hF2
  obtain ⟨hx, hb, hml, hown, hts⟩ := id hF
  intro n
  induction n with
  | zero => intro x2 x5 j_made jm_f H locs ls hm; exact absurd hm (by simp [tp_it4])
  | succ n ih79 =>
    intro x2 x5 j_made jm_f H locs ls hm hw hl
    replace hm : m_Mo_putLiterals_79 N ji_f  (tp_it4 (m_Mo_putLiterals_79 N ji_f ) n) x2 x5 j_made jm_f = some (j_made', jm_f') := hm
    unfold m_Mo_putLiterals_79 at hm
    refine lv_iload hx hb d_Mo_putLiterals_79 (lv_at hl 2 rfl) ?_
    refine lv_iload_n hx hb d_Mo_putLiterals_81 rfl (lv_at hl 1 rfl) ?_
    refine lv_icmp_ge (tgt := 102) hx hb d_Mo_putLiterals_82 (by decide +kernel) (fun hc18 => ?_) (fun hc18 => ?_)
    · replace hm := tp_it hc18 hm
      obtain ⟨rfl, rfl⟩ := tp_inj2 hm
      exact tp_vret () hx hb hr hlocks hw d_Mo_putLiterals_102
    · replace hm := tp_if hc18 hm
      refine lv_aload_n hx hb d_Mo_putLiterals_85 rfl (lv_at hl 0 rfl) ?_
      refine lv_aload_n hx hb d_Mo_putLiterals_86 rfl (lv_at hl 0 rfl) ?_
      refine tp_get (v := .ref q_ji) (C := R_Mo) (T := T_Mo) hx hb hts fw_Mo hown hw 0 rfl rfl 0 (by decide +kernel) (hts _ wd_333) rfl d_Mo_putLiterals_87 ?_
      refine lv_iload hx hb d_Mo_putLiterals_90 (lv_at hl 2 rfl) ?_
      obtain ⟨hi19, hm⟩ := tp_gd_e hm
      refine tp_bald hx hb hw 1 0 rfl rfl hi19 d_Mo_putLiterals_92 ?_
      obtain ⟨j_made_20, jm_f_21, hm22, hm⟩ := tp_b2_e hm
      refine tp_callv (wr := []) (WS' := [(q_j, .inr (7, [.ref q_ji, .int j_in, .ref q_jo, .int j_out, .ref q_jm, .int j_made_20, .ref q_jn, .ref q_jf, .int j_known, .int j_fat, .int j_flong, .int j_told, .int j_at, .int j_end, .int j_fault, .int j_fp])), (q_ji, .inl (cB, 10000, .inl ji_f)), (q_jo, .inl (cB, 10000, .inl jo_f)), (q_jm, .inl (cB, 20000, .inl jm_f_21)), (q_jn, .inl (cI, 10001, .inl jn_f)), (q_jf, .inl (cI, 10001, .inl jf_f))]) (va_runV (As := [.int (ji_f (Int32.toNatClampNeg x5))]) (rest := []) hF (ct_Mo_put (l := l) (D := D) (cB := cB) (cI := cI) (tM := tM) (q_j := q_j) (q_ji := q_ji) (q_jo := q_jo) (q_jm := q_jm) (q_jn := q_jn) (q_jf := q_jf) (j_in := j_in) (j_out := j_out) (j_made := j_made) (j_known := j_known) (j_fat := j_fat) (j_flong := j_flong) (j_told := j_told) (j_at := j_at) (j_end := j_end) (j_fault := j_fault) (j_fp := j_fp) (ji_f := ji_f) (jo_f := jo_f) (jm_f := jm_f) (jn_f := jn_f) (jf_f := jf_f) (x1 := (ji_f (Int32.toNatClampNeg x5))) (j_made' := j_made_20) (jm_f' := jm_f_21) hm22 _) (cwV 1 hts (tpG_V wd_341 wd_342 wd_343 wd_340 wd_339) rfl rfl rfl ⟨rfl, yd_Mo_put⟩ ⟨Nat.le_of_ble_eq_true rfl, Nat.le_of_ble_eq_true rfl⟩) ⟨tp_blind, va_recv hw.1 hw.2.1 (ci := 7) (q0 := 0) rfl rfl, tp_pre hw [0, 1, 2, 3, 4, 5] rfl rfl⟩ rfl rfl hl.1 rfl (lv_room (Nat.le_of_ble_eq_true rfl)) d_Mo_putLiterals_93 ⟨Nat.le_of_ble_eq_true rfl, Nat.le_of_ble_eq_true rfl⟩) hw [0, 1, 2, 3, 4, 5] [] [0, 1, 2, 3, 4, 5] rfl rfl rfl (by decide) rfl rfl (fun H locs hw => ?_)
      refine lv_iinc (v := (x5 + (1 : Int32))) (lv' := [(5, .int (x5 + (1 : Int32))), (0, .ref q_j), (2, .int x2)]) hx hb d_Mo_putLiterals_96 hl (k := 2) rfl rfl (by decide +kernel) rfl (fun ls hl => ?_)
      refine lv_goto (tgt := 79) hx hb d_Mo_putLiterals_99 (by decide +kernel) ?_
      exact ih79 _ _ _ _ _ _ _ hm hw (lv_sub hl [1, 2, 0] rfl)
set_option maxHeartbeats 4000000 in
set_option maxRecDepth 100000 in
theorem w_Mo_putLiterals_41 {q_j q_ji q_jo q_jm q_jn q_jf : Nat} {j_in : Int32} {j_out : Int32} {j_known : Int32} {j_fat : Int32} {j_flong : Int32} {j_told : Int32} {j_at : Int32} {j_end : Int32} {j_fault : Int32} {j_fp : Int32} {ji_f : Nat → Int32} {jo_f : Nat → Int32} {jn_f : Nat → Int32} {jf_f : Nat → Int32} {N : Nat} {j_made' : Int32} {jm_f' : Nat → Int32} (hF2 : tp_F p m c c_Mo_putLiterals 6 s args tpG R_Mo meth none) : ∀ (x1 : Int32) (x2 : Int32) (x3 : Int32) (k0 : Int32) (j_made : Int32) (jm_f : Nat → Int32) (H : Heap) (locs : List Loc) (ls : Array Slot), m_Mo_putLiterals_41 N ji_f  x1 x2 x3 k0 j_made jm_f = some (j_made', jm_f') → tp_Wd D (tp_ty cB cI) tM A s H locs [(q_j, .inr (7, [.ref q_ji, .int j_in, .ref q_jo, .int j_out, .ref q_jm, .int j_made, .ref q_jn, .ref q_jf, .int j_known, .int j_fat, .int j_flong, .int j_told, .int j_at, .int j_end, .int j_fault, .int j_fp])), (q_ji, .inl (cB, 10000, .inl ji_f)), (q_jo, .inl (cB, 10000, .inl jo_f)), (q_jm, .inl (cB, 20000, .inl jm_f)), (q_jn, .inl (cI, 10001, .inl jn_f)), (q_jf, .inl (cI, 10001, .inl jf_f))] → lv_has ls 6 [(0, .ref q_j), (1, .int x1), (2, .int x2), (3, .int x3)] → W p l e rm_Mo_putLiterals s m args below meth c H locs 0 0 (MQ below (tp_Qv (S := Unit) D A (fun _ => [(q_j, .inr (7, [.ref q_ji, .int j_in, .ref q_jo, .int j_out, .ref q_jm, .int j_made', .ref q_jn, .ref q_jf, .int j_known, .int j_fat, .int j_flong, .int j_told, .int j_at, .int j_end, .int j_fault, .int j_fp])), (q_ji, .inl (cB, 10000, .inl ji_f)), (q_jo, .inl (cB, 10000, .inl jo_f)), (q_jm, .inl (cB, 20000, .inl jm_f')), (q_jn, .inl (cI, 10001, .inl jn_f)), (q_jf, .inl (cI, 10001, .inl jf_f))])) args s 0 0 A) (F0 m 41 ls [.int k0]) := by
  obtain ⟨hF, hr, hlocks⟩ := id hF2
  obtain ⟨hx, hb, hml, hown, hts⟩ := id hF
  intro x1 x2 x3 k0 j_made jm_f H locs ls hm hw hl
  unfold m_Mo_putLiterals_41 at hm
  refine lv_istore (lv' := [(4, .int k0), (0, .ref q_j), (1, .int x1), (2, .int x2), (3, .int x3)]) hx hb d_Mo_putLiterals_41 hl (by decide +kernel) rfl (fun ls hl => ?_)
  refine lv_aload_n hx hb d_Mo_putLiterals_43 rfl (lv_at hl 1 rfl) ?_
  refine lv_iload hx hb d_Mo_putLiterals_44 (lv_at hl 0 rfl) ?_
  refine lv_if_ne (tgt := 57) hx hb d_Mo_putLiterals_46 (by decide +kernel) (fun hc5 => ?_) (fun hc5 => ?_)
  · replace hm := tp_if hc5 hm
    refine lv_iconst (v := (4 : Int32)) hx hb d_Mo_putLiterals_57 (by decide +kernel) ?_
    refine lv_bipush (v := (59 : Int32)) hx hb d_Mo_putLiterals_58 (by decide +kernel) ?_
    refine lv_iload hx hb d_Mo_putLiterals_60 (lv_at hl 0 rfl) ?_
    refine lv_iadd hx hb d_Mo_putLiterals_62 ?_
    refine lv_imul hx hb d_Mo_putLiterals_63 ?_
    obtain ⟨j_made_6, jm_f_7, hm8, hm⟩ := tp_b2_e hm
    refine tp_callv (wr := []) (WS' := [(q_j, .inr (7, [.ref q_ji, .int j_in, .ref q_jo, .int j_out, .ref q_jm, .int j_made_6, .ref q_jn, .ref q_jf, .int j_known, .int j_fat, .int j_flong, .int j_told, .int j_at, .int j_end, .int j_fault, .int j_fp])), (q_ji, .inl (cB, 10000, .inl ji_f)), (q_jo, .inl (cB, 10000, .inl jo_f)), (q_jm, .inl (cB, 20000, .inl jm_f_7)), (q_jn, .inl (cI, 10001, .inl jn_f)), (q_jf, .inl (cI, 10001, .inl jf_f))]) (va_runV (As := [.int ((4 : Int32) * ((59 : Int32) + k0))]) (rest := []) hF (ct_Mo_put (l := l) (D := D) (cB := cB) (cI := cI) (tM := tM) (q_j := q_j) (q_ji := q_ji) (q_jo := q_jo) (q_jm := q_jm) (q_jn := q_jn) (q_jf := q_jf) (j_in := j_in) (j_out := j_out) (j_made := j_made) (j_known := j_known) (j_fat := j_fat) (j_flong := j_flong) (j_told := j_told) (j_at := j_at) (j_end := j_end) (j_fault := j_fault) (j_fp := j_fp) (ji_f := ji_f) (jo_f := jo_f) (jm_f := jm_f) (jn_f := jn_f) (jf_f := jf_f) (x1 := ((4 : Int32) * ((59 : Int32) + k0))) (j_made' := j_made_6) (jm_f' := jm_f_7) hm8 _) (cwV 1 hts (tpG_V wd_341 wd_342 wd_343 wd_340 wd_339) rfl rfl rfl ⟨rfl, yd_Mo_put⟩ ⟨Nat.le_of_ble_eq_true rfl, Nat.le_of_ble_eq_true rfl⟩) ⟨tp_blind, va_recv hw.1 hw.2.1 (ci := 7) (q0 := 0) rfl rfl, tp_pre hw [0, 1, 2, 3, 4, 5] rfl rfl⟩ rfl rfl hl.1 rfl (lv_room (Nat.le_of_ble_eq_true rfl)) d_Mo_putLiterals_64 ⟨Nat.le_of_ble_eq_true rfl, Nat.le_of_ble_eq_true rfl⟩) hw [0, 1, 2, 3, 4, 5] [] [0, 1, 2, 3, 4, 5] rfl rfl rfl (by decide) rfl rfl (fun H locs hw => ?_)
    refine lv_aload_n hx hb d_Mo_putLiterals_67 rfl (lv_at hl 1 rfl) ?_
    refine lv_iload_n hx hb d_Mo_putLiterals_68 rfl (lv_at hl 4 rfl) ?_
    refine lv_iconst (v := (1 : Int32)) hx hb d_Mo_putLiterals_69 (by decide +kernel) ?_
    refine lv_isub hx hb d_Mo_putLiterals_70 ?_
    refine lv_iload hx hb d_Mo_putLiterals_71 (lv_at hl 0 rfl) ?_
    obtain ⟨j_made_9, jm_f_10, hm11, hm⟩ := tp_b2_e hm
    refine tp_callv (wr := []) (WS' := [(q_j, .inr (7, [.ref q_ji, .int j_in, .ref q_jo, .int j_out, .ref q_jm, .int j_made_9, .ref q_jn, .ref q_jf, .int j_known, .int j_fat, .int j_flong, .int j_told, .int j_at, .int j_end, .int j_fault, .int j_fp])), (q_ji, .inl (cB, 10000, .inl ji_f)), (q_jo, .inl (cB, 10000, .inl jo_f)), (q_jm, .inl (cB, 20000, .inl jm_f_10)), (q_jn, .inl (cI, 10001, .inl jn_f)), (q_jf, .inl (cI, 10001, .inl jf_f))]) (va_runV (As := [.int (x3 - (1 : Int32)), .int k0]) (rest := []) hF (ct_Mo_putNumber (l := l) (D := D) (cB := cB) (cI := cI) (tM := tM) (q_j := q_j) (q_ji := q_ji) (q_jo := q_jo) (q_jm := q_jm) (q_jn := q_jn) (q_jf := q_jf) (j_in := j_in) (j_out := j_out) (j_made := j_made_6) (j_known := j_known) (j_fat := j_fat) (j_flong := j_flong) (j_told := j_told) (j_at := j_at) (j_end := j_end) (j_fault := j_fault) (j_fp := j_fp) (ji_f := ji_f) (jo_f := jo_f) (jm_f := jm_f_7) (jn_f := jn_f) (jf_f := jf_f) (x1 := (x3 - (1 : Int32))) (x2 := k0) (N := N) (j_made' := j_made_9) (jm_f' := jm_f_10) hm11 _) (cwV 2 hts (tpG_V wd_378 wd_379 wd_380 wd_340 wd_377) rfl rfl rfl ⟨rfl, yd_Mo_putNumber⟩ ⟨Nat.le_of_ble_eq_true rfl, Nat.le_of_ble_eq_true rfl⟩) ⟨tp_blind, va_recv hw.1 hw.2.1 (ci := 7) (q0 := 0) rfl rfl, tp_pre hw [0, 1, 2, 3, 4, 5] rfl rfl⟩ rfl rfl hl.1 rfl (lv_room (Nat.le_of_ble_eq_true rfl)) d_Mo_putLiterals_73 ⟨Nat.le_of_ble_eq_true rfl, Nat.le_of_ble_eq_true rfl⟩) hw [0, 1, 2, 3, 4, 5] [] [0, 1, 2, 3, 4, 5] rfl rfl rfl (by decide) rfl rfl (fun H locs hw => ?_)
    refine lv_iload_n hx hb d_Mo_putLiterals_76 rfl (lv_at hl 2 rfl) ?_
    refine lv_istore (lv' := [(5, .int x1), (4, .int k0), (0, .ref q_j), (1, .int x1), (2, .int x2), (3, .int x3)]) hx hb d_Mo_putLiterals_77 hl (by decide +kernel) rfl (fun ls hl => ?_)
    exact w_Mo_putLiterals_79 hF2  N _ _ _ _ _ _ _ hm hw (lv_sub hl [2, 4, 0] rfl)
  · replace hm := tp_it hc5 hm
    refine lv_iconst (v := (4 : Int32)) hx hb d_Mo_putLiterals_49 (by decide +kernel) ?_
    refine lv_iload_n hx hb d_Mo_putLiterals_50 rfl (lv_at hl 4 rfl) ?_
    refine lv_iconst (v := (1 : Int32)) hx hb d_Mo_putLiterals_51 (by decide +kernel) ?_
    refine lv_isub hx hb d_Mo_putLiterals_52 ?_
    refine lv_imul hx hb d_Mo_putLiterals_53 ?_
    refine lv_goto (tgt := 64) hx hb d_Mo_putLiterals_54 (by decide +kernel) ?_
    obtain ⟨j_made_12, jm_f_13, hm14, hm⟩ := tp_b2_e hm
    refine tp_callv (wr := []) (WS' := [(q_j, .inr (7, [.ref q_ji, .int j_in, .ref q_jo, .int j_out, .ref q_jm, .int j_made_12, .ref q_jn, .ref q_jf, .int j_known, .int j_fat, .int j_flong, .int j_told, .int j_at, .int j_end, .int j_fault, .int j_fp])), (q_ji, .inl (cB, 10000, .inl ji_f)), (q_jo, .inl (cB, 10000, .inl jo_f)), (q_jm, .inl (cB, 20000, .inl jm_f_13)), (q_jn, .inl (cI, 10001, .inl jn_f)), (q_jf, .inl (cI, 10001, .inl jf_f))]) (va_runV (As := [.int ((4 : Int32) * (x3 - (1 : Int32)))]) (rest := []) hF (ct_Mo_put (l := l) (D := D) (cB := cB) (cI := cI) (tM := tM) (q_j := q_j) (q_ji := q_ji) (q_jo := q_jo) (q_jm := q_jm) (q_jn := q_jn) (q_jf := q_jf) (j_in := j_in) (j_out := j_out) (j_made := j_made) (j_known := j_known) (j_fat := j_fat) (j_flong := j_flong) (j_told := j_told) (j_at := j_at) (j_end := j_end) (j_fault := j_fault) (j_fp := j_fp) (ji_f := ji_f) (jo_f := jo_f) (jm_f := jm_f) (jn_f := jn_f) (jf_f := jf_f) (x1 := ((4 : Int32) * (x3 - (1 : Int32)))) (j_made' := j_made_12) (jm_f' := jm_f_13) hm14 _) (cwV 1 hts (tpG_V wd_341 wd_342 wd_343 wd_340 wd_339) rfl rfl rfl ⟨rfl, yd_Mo_put⟩ ⟨Nat.le_of_ble_eq_true rfl, Nat.le_of_ble_eq_true rfl⟩) ⟨tp_blind, va_recv hw.1 hw.2.1 (ci := 7) (q0 := 0) rfl rfl, tp_pre hw [0, 1, 2, 3, 4, 5] rfl rfl⟩ rfl rfl hl.1 rfl (lv_room (Nat.le_of_ble_eq_true rfl)) d_Mo_putLiterals_64 ⟨Nat.le_of_ble_eq_true rfl, Nat.le_of_ble_eq_true rfl⟩) hw [0, 1, 2, 3, 4, 5] [] [0, 1, 2, 3, 4, 5] rfl rfl rfl (by decide) rfl rfl (fun H locs hw => ?_)
    refine lv_aload_n hx hb d_Mo_putLiterals_67 rfl (lv_at hl 1 rfl) ?_
    refine lv_iload_n hx hb d_Mo_putLiterals_68 rfl (lv_at hl 4 rfl) ?_
    refine lv_iconst (v := (1 : Int32)) hx hb d_Mo_putLiterals_69 (by decide +kernel) ?_
    refine lv_isub hx hb d_Mo_putLiterals_70 ?_
    refine lv_iload hx hb d_Mo_putLiterals_71 (lv_at hl 0 rfl) ?_
    obtain ⟨j_made_15, jm_f_16, hm17, hm⟩ := tp_b2_e hm
    refine tp_callv (wr := []) (WS' := [(q_j, .inr (7, [.ref q_ji, .int j_in, .ref q_jo, .int j_out, .ref q_jm, .int j_made_15, .ref q_jn, .ref q_jf, .int j_known, .int j_fat, .int j_flong, .int j_told, .int j_at, .int j_end, .int j_fault, .int j_fp])), (q_ji, .inl (cB, 10000, .inl ji_f)), (q_jo, .inl (cB, 10000, .inl jo_f)), (q_jm, .inl (cB, 20000, .inl jm_f_16)), (q_jn, .inl (cI, 10001, .inl jn_f)), (q_jf, .inl (cI, 10001, .inl jf_f))]) (va_runV (As := [.int (x3 - (1 : Int32)), .int k0]) (rest := []) hF (ct_Mo_putNumber (l := l) (D := D) (cB := cB) (cI := cI) (tM := tM) (q_j := q_j) (q_ji := q_ji) (q_jo := q_jo) (q_jm := q_jm) (q_jn := q_jn) (q_jf := q_jf) (j_in := j_in) (j_out := j_out) (j_made := j_made_12) (j_known := j_known) (j_fat := j_fat) (j_flong := j_flong) (j_told := j_told) (j_at := j_at) (j_end := j_end) (j_fault := j_fault) (j_fp := j_fp) (ji_f := ji_f) (jo_f := jo_f) (jm_f := jm_f_13) (jn_f := jn_f) (jf_f := jf_f) (x1 := (x3 - (1 : Int32))) (x2 := k0) (N := N) (j_made' := j_made_15) (jm_f' := jm_f_16) hm17 _) (cwV 2 hts (tpG_V wd_378 wd_379 wd_380 wd_340 wd_377) rfl rfl rfl ⟨rfl, yd_Mo_putNumber⟩ ⟨Nat.le_of_ble_eq_true rfl, Nat.le_of_ble_eq_true rfl⟩) ⟨tp_blind, va_recv hw.1 hw.2.1 (ci := 7) (q0 := 0) rfl rfl, tp_pre hw [0, 1, 2, 3, 4, 5] rfl rfl⟩ rfl rfl hl.1 rfl (lv_room (Nat.le_of_ble_eq_true rfl)) d_Mo_putLiterals_73 ⟨Nat.le_of_ble_eq_true rfl, Nat.le_of_ble_eq_true rfl⟩) hw [0, 1, 2, 3, 4, 5] [] [0, 1, 2, 3, 4, 5] rfl rfl rfl (by decide) rfl rfl (fun H locs hw => ?_)
    refine lv_iload_n hx hb d_Mo_putLiterals_76 rfl (lv_at hl 2 rfl) ?_
    refine lv_istore (lv' := [(5, .int x1), (4, .int k0), (0, .ref q_j), (1, .int x1), (2, .int x2), (3, .int x3)]) hx hb d_Mo_putLiterals_77 hl (by decide +kernel) rfl (fun ls hl => ?_)
    exact w_Mo_putLiterals_79 hF2  N _ _ _ _ _ _ _ hm hw (lv_sub hl [2, 4, 0] rfl)
set_option maxHeartbeats 4000000 in
set_option maxRecDepth 100000 in
theorem ct_Mo_putLiterals {q_j q_ji q_jo q_jm q_jn q_jf : Nat} {j_in : Int32} {j_out : Int32} {j_made : Int32} {j_known : Int32} {j_fat : Int32} {j_flong : Int32} {j_told : Int32} {j_at : Int32} {j_end : Int32} {j_fault : Int32} {j_fp : Int32} {ji_f : Nat → Int32} {jo_f : Nat → Int32} {jm_f : Nat → Int32} {jn_f : Nat → Int32} {jf_f : Nat → Int32} {N : Nat} {x1 : Int32} {x2 : Int32} {j_made' : Int32} {jm_f' : Nat → Int32} (hm : m_Mo_putLiterals N x1 x2 j_made ji_f jm_f = some (j_made', jm_f')) (sz : Nat) : tp_Cv l y_Mo_putLiterals ws_Mo_putLiterals rm_Mo_putLiterals D (tp_ty cB cI) tM [.ref q_j, .int x1, .int x2] [(q_j, .inr (7, [.ref q_ji, .int j_in, .ref q_jo, .int j_out, .ref q_jm, .int j_made, .ref q_jn, .ref q_jf, .int j_known, .int j_fat, .int j_flong, .int j_told, .int j_at, .int j_end, .int j_fault, .int j_fp])), (q_ji, .inl (cB, 10000, .inl ji_f)), (q_jo, .inl (cB, 10000, .inl jo_f)), (q_jm, .inl (cB, 20000, .inl jm_f)), (q_jn, .inl (cI, 10001, .inl jn_f)), (q_jf, .inl (cI, 10001, .inl jf_f))] sz [(q_j, .inr (7, [.ref q_ji, .int j_in, .ref q_jo, .int j_out, .ref q_jm, .int j_made', .ref q_jn, .ref q_jf, .int j_known, .int j_fat, .int j_flong, .int j_told, .int j_at, .int j_end, .int j_fault, .int j_fp])), (q_ji, .inl (cB, 10000, .inl ji_f)), (q_jo, .inl (cB, 10000, .inl jo_f)), (q_jm, .inl (cB, 20000, .inl jm_f')), (q_jn, .inl (cI, 10001, .inl jn_f)), (q_jf, .inl (cI, 10001, .inl jf_f))] := by
  refine Met.ofW (cc := c_Mo_putLiterals) (maxL := 6) (ret := none) (by decide) rfl ?_
  intro p e s m args below meth c s₁ B hml hv
  obtain ⟨rfl, hv⟩ := hv
  have hw := tp_entry hv
  generalize va_A [(q_j, .inr (7, [.ref q_ji, .int j_in, .ref q_jo, .int j_out, .ref q_jm, .int j_made, .ref q_jn, .ref q_jf, .int j_known, .int j_fat, .int j_flong, .int j_told, .int j_at, .int j_end, .int j_fault, .int j_fp])), (q_ji, .inl (cB, 10000, .inl ji_f)), (q_jo, .inl (cB, 10000, .inl jo_f)), (q_jm, .inl (cB, 20000, .inl jm_f)), (q_jn, .inl (cI, 10001, .inl jn_f)), (q_jf, .inl (cI, 10001, .inl jf_f))] sz = A at hw ⊢
  have hx := B.exec
  have hb := B.bytes
  have hr := B.returns
  have hts0 := atoms_spec (ws := ws_Mo_putLiterals) B.pre
  have hts := fun w h => hts0 w (List.mem_cons_of_mem _ h)
  have hown : s.vm.findClass R_Mo = some m.cls := findClass_of_methodNamed B.named
  have hlocks := B.notSynchronized
  have hF : CallFix p m c c_Mo_putLiterals 6 s _ tpG R_Mo := ⟨hx, hb, hml, hown, hts⟩
  have hF2 : tp_F p m c c_Mo_putLiterals 6 s _ tpG R_Mo meth none := ⟨hF, hr, hlocks⟩
  have hl := lv_entry ([.ref q_j, .int x1, .int x2]) (n := 6) (Nat.le_of_ble_eq_true rfl)
  rw [lg_entry_eq]
  generalize (lg_sl ([.ref q_j, .int x1, .int x2]) ++ List.replicate (6 - (lg_sl ([.ref q_j, .int x1, .int x2])).length) Slot.unset).toArray = ls at hl ⊢
  replace hl : lv_has ls 6 [(0, .ref q_j), (1, .int x1), (2, .int x2)] := hl
  unfold m_Mo_putLiterals at hm
  refine lv_iload_n hx hb d_Mo_putLiterals_0 rfl (lv_at hl 2 rfl) ?_
  refine lv_iload_n hx hb d_Mo_putLiterals_1 rfl (lv_at hl 1 rfl) ?_
  refine lv_isub hx hb d_Mo_putLiterals_2 ?_
  refine lv_istore_n (lv' := [(3, .int (x2 - x1)), (0, .ref q_j), (1, .int x1), (2, .int x2)]) hx hb d_Mo_putLiterals_3 rfl hl (by decide +kernel) rfl (fun ls hl => ?_)
  refine lv_iload_n hx hb d_Mo_putLiterals_4 rfl (lv_at hl 0 rfl) ?_
  refine lv_if_ne (tgt := 9) hx hb d_Mo_putLiterals_5 (by decide +kernel) (fun hc1 => ?_) (fun hc1 => ?_)
  · replace hm := tp_if hc1 hm
    refine lv_iload_n hx hb d_Mo_putLiterals_9 rfl (lv_at hl 0 rfl) ?_
    refine lv_bipush (v := (60 : Int32)) hx hb d_Mo_putLiterals_10 (by decide +kernel) ?_
    refine lv_icmp_gt (tgt := 19) hx hb d_Mo_putLiterals_12 (by decide +kernel) (fun hc2 => ?_) (fun hc2 => ?_)
    · replace hm := tp_it hc2 hm
      refine lv_iload_n hx hb d_Mo_putLiterals_19 rfl (lv_at hl 0 rfl) ?_
      refine lv_sipush (v := (256 : Int32)) hx hb d_Mo_putLiterals_20 (by decide +kernel) ?_
      refine lv_icmp_gt (tgt := 30) hx hb d_Mo_putLiterals_23 (by decide +kernel) (fun hc3 => ?_) (fun hc3 => ?_)
      · replace hm := tp_it hc3 hm
        refine lv_iload_n hx hb d_Mo_putLiterals_30 rfl (lv_at hl 0 rfl) ?_
        refine lv_ldc (v := (65536 : Int32)) hx hb hown (hts _ wd_381) d_Mo_putLiterals_31 ?_
        refine lv_icmp_gt (tgt := 40) hx hb d_Mo_putLiterals_33 (by decide +kernel) (fun hc4 => ?_) (fun hc4 => ?_)
        · replace hm := tp_it hc4 hm
          refine lv_iconst (v := (3 : Int32)) hx hb d_Mo_putLiterals_40 (by decide +kernel) ?_
          exact w_Mo_putLiterals_41 hF2  _ _ _ _ _ _ _ _ _ hm hw (lv_sub hl [1, 2, 3, 0] rfl)
        · replace hm := tp_if hc4 hm
          refine lv_iconst (v := (2 : Int32)) hx hb d_Mo_putLiterals_36 (by decide +kernel) ?_
          refine lv_goto (tgt := 41) hx hb d_Mo_putLiterals_37 (by decide +kernel) ?_
          exact w_Mo_putLiterals_41 hF2  _ _ _ _ _ _ _ _ _ hm hw (lv_sub hl [1, 2, 3, 0] rfl)
      · replace hm := tp_if hc3 hm
        refine lv_iconst (v := (1 : Int32)) hx hb d_Mo_putLiterals_26 (by decide +kernel) ?_
        refine lv_goto (tgt := 41) hx hb d_Mo_putLiterals_27 (by decide +kernel) ?_
        exact w_Mo_putLiterals_41 hF2  _ _ _ _ _ _ _ _ _ hm hw (lv_sub hl [1, 2, 3, 0] rfl)
    · replace hm := tp_if hc2 hm
      refine lv_iconst (v := (0 : Int32)) hx hb d_Mo_putLiterals_15 (by decide +kernel) ?_
      refine lv_goto (tgt := 41) hx hb d_Mo_putLiterals_16 (by decide +kernel) ?_
      exact w_Mo_putLiterals_41 hF2  _ _ _ _ _ _ _ _ _ hm hw (lv_sub hl [1, 2, 3, 0] rfl)
  · replace hm := tp_it hc1 hm
    obtain ⟨rfl, rfl⟩ := tp_inj2 hm
    exact tp_vret () hx hb hr hlocks hw d_Mo_putLiterals_8
end
abbrev rm_Mo_putBlock : Room := { frames := 4, cells := 0, slots := 0, locals := 93 }
abbrev ws_Mo_putBlock : List Cond := .code y_Mo_putBlock c_Mo_putBlock 8 none :: tpG
noncomputable def m_Mo_putBlock_50 (N : Nat) (ji_f : Nat → Int32) (rec50 : Int32 → Int32 → Int32 → Int32 → Int32 → Int32 → Int32 → Int32 → Int32 → (Nat → Int32) → (Nat → Int32) → (Nat → Int32) → Option (Int32 × Int32 × Int32 × Int32 × (Nat → Int32) × (Nat → Int32) × (Nat → Int32))) (x1 : Int32) (x2 : Int32) (x3 : Int32) (x5 : Int32) (x6 : Int32) (j_made : Int32) (j_known : Int32) (j_fat : Int32) (j_flong : Int32) (jm_f : Nat → Int32) (jn_f : Nat → Int32) (jf_f : Nat → Int32) : Option (Int32 × Int32 × Int32 × Int32 × (Nat → Int32) × (Nat → Int32) × (Nat → Int32)) :=
  if x2 ≤ x6 then
    tp_b2 (m_Mo_putLiterals N x5 x2 j_made ji_f jm_f) fun j_made_9 jm_f_10 =>
    some (j_made_9, j_known, j_fat, j_flong, jm_f_10, jn_f, jf_f)
  else
    tp_b2 (m_Mo_match N x1 x6 x2 x3 j_fat j_flong ji_f) fun j_fat_12 j_flong_13 =>
    if j_flong_13 = 0 then
      rec50 x1 x2 x3 x5 (x6 + (1 : Int32)) j_made j_known j_fat_12 j_flong_13 jm_f jn_f jf_f
    else
      tp_b2 (m_Mo_putLiterals N x5 x6 j_made ji_f jm_f) fun j_made_16 jm_f_17 =>
      tp_b5 (m_Mo_putCopies N j_flong_13 (x6 - j_fat_12) j_made_16 j_known jm_f_17 jn_f jf_f) fun j_made_19 j_known_20 jm_f_21 jn_f_22 jf_f_23 =>
      rec50 x1 x2 x3 (x6 + j_flong_13) (x6 + j_flong_13) j_made_19 j_known_20 j_fat_12 j_flong_13 jm_f_21 jn_f_22 jf_f_23
noncomputable def m_Mo_putBlock_5 (N : Nat) (ji_f : Nat → Int32) (rec5 : Int32 → Int32 → Int32 → Int32 → Int32 → Int32 → Int32 → Int32 → (Nat → Int32) → (Nat → Int32) → (Nat → Int32) → Option (Int32 × Int32 × Int32 × Int32 × (Nat → Int32) × (Nat → Int32) × (Nat → Int32))) (x1 : Int32) (x2 : Int32) (x3 : Int32) (x4 : Int32) (j_made : Int32) (j_known : Int32) (j_fat : Int32) (j_flong : Int32) (jm_f : Nat → Int32) (jn_f : Nat → Int32) (jf_f : Nat → Int32) : Option (Int32 × Int32 × Int32 × Int32 × (Nat → Int32) × (Nat → Int32) × (Nat → Int32)) :=
  if x4 < (128 : Int32) then
    tp_b2 (m_Mo_put x4 j_made jm_f) fun j_made_2 jm_f_3 =>
    tp_it12 (m_Mo_putBlock_50 N ji_f ) N x1 x2 x3 x1 x1 j_made_2 j_known j_fat j_flong jm_f_3 jn_f jf_f
  else
    tp_b2 (m_Mo_put ((x4 - x4 / (128 : Int32) * (128 : Int32)) + (128 : Int32)) j_made jm_f) fun j_made_5 jm_f_6 =>
    rec5 x1 x2 x3 (x4 / (128 : Int32)) j_made_5 j_known j_fat j_flong jm_f_6 jn_f jf_f
noncomputable def m_Mo_putBlock (N : Nat) (x1 : Int32) (x2 : Int32) (x3 : Int32) (j_made : Int32) (j_known : Int32) (j_fat : Int32) (j_flong : Int32) (ji_f : Nat → Int32) (jm_f : Nat → Int32) (jn_f : Nat → Int32) (jf_f : Nat → Int32) : Option (Int32 × Int32 × Int32 × Int32 × (Nat → Int32) × (Nat → Int32) × (Nat → Int32)) :=
  tp_it11 (m_Mo_putBlock_5 N ji_f ) N x1 x2 x3 (x2 - x1) j_made j_known j_fat j_flong jm_f jn_f jf_f
section
variable {p : Program} {l : Launch} {e : Env} {s : State} {m : MethodId} {args : Array Value} {below : List Frame} {meth : Method} {c : Code} {A : Nat → Prop} {D : va_G} {cB cI : ClassId} {tM : Nat}
set_option maxHeartbeats 4000000 in
set_option maxRecDepth 100000 in
theorem w_Mo_putBlock_50 {q_j q_ji q_jo q_jm q_jn q_jf : Nat} {j_in : Int32} {j_out : Int32} {j_told : Int32} {j_at : Int32} {j_end : Int32} {j_fault : Int32} {j_fp : Int32} {ji_f : Nat → Int32} {jo_f : Nat → Int32} {N : Nat} {j_made' : Int32} {j_known' : Int32} {j_fat' : Int32} {j_flong' : Int32} {jm_f' : Nat → Int32} {jn_f' : Nat → Int32} {jf_f' : Nat → Int32} (hF2 : tp_F p m c c_Mo_putBlock 8 s args tpG R_Mo meth none) : ∀ (n : Nat), ∀ (x1 : Int32) (x2 : Int32) (x3 : Int32) (x5 : Int32) (x6 : Int32) (j_made : Int32) (j_known : Int32) (j_fat : Int32) (j_flong : Int32) (jm_f : Nat → Int32) (jn_f : Nat → Int32) (jf_f : Nat → Int32) (H : Heap) (locs : List Loc) (ls : Array Slot), tp_it12 (m_Mo_putBlock_50 N ji_f ) n x1 x2 x3 x5 x6 j_made j_known j_fat j_flong jm_f jn_f jf_f = some (j_made', j_known', j_fat', j_flong', jm_f', jn_f', jf_f') → tp_Wd D (tp_ty cB cI) tM A s H locs [(q_j, .inr (7, [.ref q_ji, .int j_in, .ref q_jo, .int j_out, .ref q_jm, .int j_made, .ref q_jn, .ref q_jf, .int j_known, .int j_fat, .int j_flong, .int j_told, .int j_at, .int j_end, .int j_fault, .int j_fp])), (q_ji, .inl (cB, 10000, .inl ji_f)), (q_jo, .inl (cB, 10000, .inl jo_f)), (q_jm, .inl (cB, 20000, .inl jm_f)), (q_jn, .inl (cI, 10001, .inl jn_f)), (q_jf, .inl (cI, 10001, .inl jf_f))] → lv_has ls 8 [(0, .ref q_j), (1, .int x1), (2, .int x2), (3, .int x3), (5, .int x5), (6, .int x6)] → W p l e rm_Mo_putBlock s m args below meth c H locs 0 0 (MQ below (tp_Qv (S := Unit) D A (fun _ => [(q_j, .inr (7, [.ref q_ji, .int j_in, .ref q_jo, .int j_out, .ref q_jm, .int j_made', .ref q_jn, .ref q_jf, .int j_known', .int j_fat', .int j_flong', .int j_told, .int j_at, .int j_end, .int j_fault, .int j_fp])), (q_ji, .inl (cB, 10000, .inl ji_f)), (q_jo, .inl (cB, 10000, .inl jo_f)), (q_jm, .inl (cB, 20000, .inl jm_f')), (q_jn, .inl (cI, 10001, .inl jn_f')), (q_jf, .inl (cI, 10001, .inl jf_f'))])) args s 0 0 A) (F0 m 50 ls []) := by
  obtain ⟨hF, hr, hlocks⟩ := id hF2
  obtain ⟨hx, hb, hml, hown, hts⟩ := id hF
  intro n
  induction n with
  | zero => intro x1 x2 x3 x5 x6 j_made j_known j_fat j_flong jm_f jn_f jf_f H locs ls hm; exact absurd hm (by simp [tp_it12])
  | succ n ih50 =>
    intro x1 x2 x3 x5 x6 j_made j_known j_fat j_flong jm_f jn_f jf_f H locs ls hm hw hl
    replace hm : m_Mo_putBlock_50 N ji_f  (tp_it12 (m_Mo_putBlock_50 N ji_f ) n) x1 x2 x3 x5 x6 j_made j_known j_fat j_flong jm_f jn_f jf_f = some (j_made', j_known', j_fat', j_flong', jm_f', jn_f', jf_f') := hm
    unfold m_Mo_putBlock_50 at hm
    refine lv_iload hx hb d_Mo_putBlock_50 (lv_at hl 5 rfl) ?_
    refine lv_iload_n hx hb d_Mo_putBlock_52 rfl (lv_at hl 2 rfl) ?_
    refine lv_icmp_ge (tgt := 119) hx hb d_Mo_putBlock_53 (by decide +kernel) (fun hc8 => ?_) (fun hc8 => ?_)
    · replace hm := tp_it hc8 hm
      refine lv_aload_n hx hb d_Mo_putBlock_119 rfl (lv_at hl 0 rfl) ?_
      refine lv_iload hx hb d_Mo_putBlock_120 (lv_at hl 4 rfl) ?_
      refine lv_iload_n hx hb d_Mo_putBlock_122 rfl (lv_at hl 2 rfl) ?_
      obtain ⟨j_made_9, jm_f_10, hm11, hm⟩ := tp_b2_e hm
      refine tp_callv (wr := []) (WS' := [(q_j, .inr (7, [.ref q_ji, .int j_in, .ref q_jo, .int j_out, .ref q_jm, .int j_made_9, .ref q_jn, .ref q_jf, .int j_known, .int j_fat, .int j_flong, .int j_told, .int j_at, .int j_end, .int j_fault, .int j_fp])), (q_ji, .inl (cB, 10000, .inl ji_f)), (q_jo, .inl (cB, 10000, .inl jo_f)), (q_jm, .inl (cB, 20000, .inl jm_f_10)), (q_jn, .inl (cI, 10001, .inl jn_f)), (q_jf, .inl (cI, 10001, .inl jf_f))]) (va_runV (As := [.int x5, .int x2]) (rest := []) hF (ct_Mo_putLiterals (l := l) (D := D) (cB := cB) (cI := cI) (tM := tM) (q_j := q_j) (q_ji := q_ji) (q_jo := q_jo) (q_jm := q_jm) (q_jn := q_jn) (q_jf := q_jf) (j_in := j_in) (j_out := j_out) (j_made := j_made) (j_known := j_known) (j_fat := j_fat) (j_flong := j_flong) (j_told := j_told) (j_at := j_at) (j_end := j_end) (j_fault := j_fault) (j_fp := j_fp) (ji_f := ji_f) (jo_f := jo_f) (jm_f := jm_f) (jn_f := jn_f) (jf_f := jf_f) (x1 := x5) (x2 := x2) (N := N) (j_made' := j_made_9) (jm_f' := jm_f_10) hm11 _) (cwV 2 hts (tpG_V wd_383 wd_384 wd_385 wd_340 wd_382) rfl rfl rfl ⟨rfl, yd_Mo_putLiterals⟩ ⟨Nat.le_of_ble_eq_true rfl, Nat.le_of_ble_eq_true rfl⟩) ⟨tp_blind, va_recv hw.1 hw.2.1 (ci := 7) (q0 := 0) rfl rfl, tp_pre hw [0, 1, 2, 3, 4, 5] rfl rfl⟩ rfl rfl hl.1 rfl (lv_room (Nat.le_of_ble_eq_true rfl)) d_Mo_putBlock_123 ⟨Nat.le_of_ble_eq_true rfl, Nat.le_of_ble_eq_true rfl⟩) hw [0, 1, 2, 3, 4, 5] [] [0, 1, 2, 3, 4, 5] rfl rfl rfl (by decide) rfl rfl (fun H locs hw => ?_)
      obtain ⟨rfl, rfl, rfl, rfl, rfl, rfl, rfl⟩ := tp_inj7 hm
      exact tp_vret () hx hb hr hlocks hw d_Mo_putBlock_126
    · replace hm := tp_if hc8 hm
      refine lv_aload_n hx hb d_Mo_putBlock_56 rfl (lv_at hl 0 rfl) ?_
      refine lv_iload_n hx hb d_Mo_putBlock_57 rfl (lv_at hl 1 rfl) ?_
      refine lv_iload hx hb d_Mo_putBlock_58 (lv_at hl 5 rfl) ?_
      refine lv_iload_n hx hb d_Mo_putBlock_60 rfl (lv_at hl 2 rfl) ?_
      refine lv_iload_n hx hb d_Mo_putBlock_61 rfl (lv_at hl 3 rfl) ?_
      obtain ⟨j_fat_12, j_flong_13, hm14, hm⟩ := tp_b2_e hm
      refine tp_callv (wr := []) (WS' := [(q_j, .inr (7, [.ref q_ji, .int j_in, .ref q_jo, .int j_out, .ref q_jm, .int j_made, .ref q_jn, .ref q_jf, .int j_known, .int j_fat_12, .int j_flong_13, .int j_told, .int j_at, .int j_end, .int j_fault, .int j_fp])), (q_ji, .inl (cB, 10000, .inl ji_f)), (q_jo, .inl (cB, 10000, .inl jo_f)), (q_jm, .inl (cB, 20000, .inl jm_f)), (q_jn, .inl (cI, 10001, .inl jn_f)), (q_jf, .inl (cI, 10001, .inl jf_f))]) (va_runV (As := [.int x1, .int x6, .int x2, .int x3]) (rest := []) hF (ct_Mo_match (l := l) (D := D) (cB := cB) (cI := cI) (tM := tM) (q_j := q_j) (q_ji := q_ji) (q_jo := q_jo) (q_jm := q_jm) (q_jn := q_jn) (q_jf := q_jf) (j_in := j_in) (j_out := j_out) (j_made := j_made) (j_known := j_known) (j_fat := j_fat) (j_flong := j_flong) (j_told := j_told) (j_at := j_at) (j_end := j_end) (j_fault := j_fault) (j_fp := j_fp) (ji_f := ji_f) (jo_f := jo_f) (jm_f := jm_f) (jn_f := jn_f) (jf_f := jf_f) (x1 := x1) (x2 := x6) (x3 := x2) (x4 := x3) (N := N) (j_fat' := j_fat_12) (j_flong' := j_flong_13) hm14 _) (cwV 4 hts (tpG_V wd_387 wd_388 wd_389 wd_340 wd_386) rfl rfl rfl ⟨rfl, yd_Mo_match⟩ ⟨Nat.le_of_ble_eq_true rfl, Nat.le_of_ble_eq_true rfl⟩) ⟨tp_blind, va_recv hw.1 hw.2.1 (ci := 7) (q0 := 0) rfl rfl, tp_pre hw [0, 1, 2, 3, 4, 5] rfl rfl⟩ rfl rfl hl.1 rfl (lv_room (Nat.le_of_ble_eq_true rfl)) d_Mo_putBlock_62 ⟨Nat.le_of_ble_eq_true rfl, Nat.le_of_ble_eq_true rfl⟩) hw [0, 1, 2, 3, 4, 5] [] [0, 1, 2, 3, 4, 5] rfl rfl rfl (by decide) rfl rfl (fun H locs hw => ?_)
      refine lv_aload_n hx hb d_Mo_putBlock_65 rfl (lv_at hl 0 rfl) ?_
      refine tp_get (v := .int j_flong_13) (C := R_Mo) (T := T_Mo) hx hb hts fw_Mo hown hw 0 rfl rfl 10 (by decide +kernel) (hts _ wd_344) rfl d_Mo_putBlock_66 ?_
      refine lv_if_ne (tgt := 78) hx hb d_Mo_putBlock_69 (by decide +kernel) (fun hc15 => ?_) (fun hc15 => ?_)
      · replace hm := tp_if hc15 hm
        refine lv_aload_n hx hb d_Mo_putBlock_78 rfl (lv_at hl 0 rfl) ?_
        refine lv_iload hx hb d_Mo_putBlock_79 (lv_at hl 4 rfl) ?_
        refine lv_iload hx hb d_Mo_putBlock_81 (lv_at hl 5 rfl) ?_
        obtain ⟨j_made_16, jm_f_17, hm18, hm⟩ := tp_b2_e hm
        refine tp_callv (wr := []) (WS' := [(q_j, .inr (7, [.ref q_ji, .int j_in, .ref q_jo, .int j_out, .ref q_jm, .int j_made_16, .ref q_jn, .ref q_jf, .int j_known, .int j_fat_12, .int j_flong_13, .int j_told, .int j_at, .int j_end, .int j_fault, .int j_fp])), (q_ji, .inl (cB, 10000, .inl ji_f)), (q_jo, .inl (cB, 10000, .inl jo_f)), (q_jm, .inl (cB, 20000, .inl jm_f_17)), (q_jn, .inl (cI, 10001, .inl jn_f)), (q_jf, .inl (cI, 10001, .inl jf_f))]) (va_runV (As := [.int x5, .int x6]) (rest := []) hF (ct_Mo_putLiterals (l := l) (D := D) (cB := cB) (cI := cI) (tM := tM) (q_j := q_j) (q_ji := q_ji) (q_jo := q_jo) (q_jm := q_jm) (q_jn := q_jn) (q_jf := q_jf) (j_in := j_in) (j_out := j_out) (j_made := j_made) (j_known := j_known) (j_fat := j_fat_12) (j_flong := j_flong_13) (j_told := j_told) (j_at := j_at) (j_end := j_end) (j_fault := j_fault) (j_fp := j_fp) (ji_f := ji_f) (jo_f := jo_f) (jm_f := jm_f) (jn_f := jn_f) (jf_f := jf_f) (x1 := x5) (x2 := x6) (N := N) (j_made' := j_made_16) (jm_f' := jm_f_17) hm18 _) (cwV 2 hts (tpG_V wd_383 wd_384 wd_385 wd_340 wd_382) rfl rfl rfl ⟨rfl, yd_Mo_putLiterals⟩ ⟨Nat.le_of_ble_eq_true rfl, Nat.le_of_ble_eq_true rfl⟩) ⟨tp_blind, va_recv hw.1 hw.2.1 (ci := 7) (q0 := 0) rfl rfl, tp_pre hw [0, 1, 2, 3, 4, 5] rfl rfl⟩ rfl rfl hl.1 rfl (lv_room (Nat.le_of_ble_eq_true rfl)) d_Mo_putBlock_83 ⟨Nat.le_of_ble_eq_true rfl, Nat.le_of_ble_eq_true rfl⟩) hw [0, 1, 2, 3, 4, 5] [] [0, 1, 2, 3, 4, 5] rfl rfl rfl (by decide) rfl rfl (fun H locs hw => ?_)
        refine lv_aload_n hx hb d_Mo_putBlock_86 rfl (lv_at hl 0 rfl) ?_
        refine tp_get (v := .int j_flong_13) (C := R_Mo) (T := T_Mo) hx hb hts fw_Mo hown hw 0 rfl rfl 10 (by decide +kernel) (hts _ wd_344) rfl d_Mo_putBlock_87 ?_
        refine lv_istore (lv' := [(7, .int j_flong_13), (0, .ref q_j), (1, .int x1), (2, .int x2), (3, .int x3), (5, .int x5), (6, .int x6)]) hx hb d_Mo_putBlock_90 hl (by decide +kernel) rfl (fun ls hl => ?_)
        refine lv_aload_n hx hb d_Mo_putBlock_92 rfl (lv_at hl 1 rfl) ?_
        refine lv_iload hx hb d_Mo_putBlock_93 (lv_at hl 0 rfl) ?_
        refine lv_iload hx hb d_Mo_putBlock_95 (lv_at hl 6 rfl) ?_
        refine lv_aload_n hx hb d_Mo_putBlock_97 rfl (lv_at hl 1 rfl) ?_
        refine tp_get (v := .int j_fat_12) (C := R_Mo) (T := T_Mo) hx hb hts fw_Mo hown hw 0 rfl rfl 9 (by decide +kernel) (hts _ wd_349) rfl d_Mo_putBlock_98 ?_
        refine lv_isub hx hb d_Mo_putBlock_101 ?_
        obtain ⟨j_made_19, j_known_20, jm_f_21, jn_f_22, jf_f_23, hm24, hm⟩ := tp_b5_e hm
        refine tp_callv (wr := []) (WS' := [(q_j, .inr (7, [.ref q_ji, .int j_in, .ref q_jo, .int j_out, .ref q_jm, .int j_made_19, .ref q_jn, .ref q_jf, .int j_known_20, .int j_fat_12, .int j_flong_13, .int j_told, .int j_at, .int j_end, .int j_fault, .int j_fp])), (q_ji, .inl (cB, 10000, .inl ji_f)), (q_jo, .inl (cB, 10000, .inl jo_f)), (q_jm, .inl (cB, 20000, .inl jm_f_21)), (q_jn, .inl (cI, 10001, .inl jn_f_22)), (q_jf, .inl (cI, 10001, .inl jf_f_23))]) (va_runV (As := [.int j_flong_13, .int (x6 - j_fat_12)]) (rest := []) hF (ct_Mo_putCopies (l := l) (D := D) (cB := cB) (cI := cI) (tM := tM) (q_j := q_j) (q_ji := q_ji) (q_jo := q_jo) (q_jm := q_jm) (q_jn := q_jn) (q_jf := q_jf) (j_in := j_in) (j_out := j_out) (j_made := j_made_16) (j_known := j_known) (j_fat := j_fat_12) (j_flong := j_flong_13) (j_told := j_told) (j_at := j_at) (j_end := j_end) (j_fault := j_fault) (j_fp := j_fp) (ji_f := ji_f) (jo_f := jo_f) (jm_f := jm_f_17) (jn_f := jn_f) (jf_f := jf_f) (x1 := j_flong_13) (x2 := (x6 - j_fat_12)) (N := N) (j_made' := j_made_19) (j_known' := j_known_20) (jm_f' := jm_f_21) (jn_f' := jn_f_22) (jf_f' := jf_f_23) hm24 _) (cwV 2 hts (tpG_V wd_391 wd_392 wd_393 wd_340 wd_390) rfl rfl rfl ⟨rfl, yd_Mo_putCopies⟩ ⟨Nat.le_of_ble_eq_true rfl, Nat.le_of_ble_eq_true rfl⟩) ⟨tp_blind, va_recv hw.1 hw.2.1 (ci := 7) (q0 := 0) rfl rfl, tp_pre hw [0, 1, 2, 3, 4, 5] rfl rfl⟩ rfl rfl hl.1 rfl (lv_room (Nat.le_of_ble_eq_true rfl)) d_Mo_putBlock_102 ⟨Nat.le_of_ble_eq_true rfl, Nat.le_of_ble_eq_true rfl⟩) hw [0, 1, 2, 3, 4, 5] [] [0, 1, 2, 3, 4, 5] rfl rfl rfl (by decide) rfl rfl (fun H locs hw => ?_)
        refine lv_iload hx hb d_Mo_putBlock_105 (lv_at hl 6 rfl) ?_
        refine lv_iload hx hb d_Mo_putBlock_107 (lv_at hl 0 rfl) ?_
        refine lv_iadd hx hb d_Mo_putBlock_109 ?_
        refine lv_istore (lv' := [(6, .int (x6 + j_flong_13)), (7, .int j_flong_13), (0, .ref q_j), (1, .int x1), (2, .int x2), (3, .int x3), (5, .int x5)]) hx hb d_Mo_putBlock_110 hl (by decide +kernel) rfl (fun ls hl => ?_)
        refine lv_iload hx hb d_Mo_putBlock_112 (lv_at hl 0 rfl) ?_
        refine lv_istore (lv' := [(5, .int (x6 + j_flong_13)), (6, .int (x6 + j_flong_13)), (7, .int j_flong_13), (0, .ref q_j), (1, .int x1), (2, .int x2), (3, .int x3)]) hx hb d_Mo_putBlock_114 hl (by decide +kernel) rfl (fun ls hl => ?_)
        refine lv_goto (tgt := 50) hx hb d_Mo_putBlock_116 (by decide +kernel) ?_
        exact ih50 _ _ _ _ _ _ _ _ _ _ _ _ _ _ _ hm hw (lv_sub hl [3, 4, 5, 6, 0, 1] rfl)
      · replace hm := tp_it hc15 hm
        refine lv_iinc (v := (x6 + (1 : Int32))) (lv' := [(6, .int (x6 + (1 : Int32))), (0, .ref q_j), (1, .int x1), (2, .int x2), (3, .int x3), (5, .int x5)]) hx hb d_Mo_putBlock_72 hl (k := 5) rfl rfl (by decide +kernel) rfl (fun ls hl => ?_)
        refine lv_goto (tgt := 50) hx hb d_Mo_putBlock_75 (by decide +kernel) ?_
        exact ih50 _ _ _ _ _ _ _ _ _ _ _ _ _ _ _ hm hw (lv_sub hl [1, 2, 3, 4, 5, 0] rfl)
set_option maxHeartbeats 4000000 in
set_option maxRecDepth 100000 in
theorem w_Mo_putBlock_5 {q_j q_ji q_jo q_jm q_jn q_jf : Nat} {j_in : Int32} {j_out : Int32} {j_told : Int32} {j_at : Int32} {j_end : Int32} {j_fault : Int32} {j_fp : Int32} {ji_f : Nat → Int32} {jo_f : Nat → Int32} {N : Nat} {j_made' : Int32} {j_known' : Int32} {j_fat' : Int32} {j_flong' : Int32} {jm_f' : Nat → Int32} {jn_f' : Nat → Int32} {jf_f' : Nat → Int32} (hF2 : tp_F p m c c_Mo_putBlock 8 s args tpG R_Mo meth none) : ∀ (n : Nat), ∀ (x1 : Int32) (x2 : Int32) (x3 : Int32) (x4 : Int32) (j_made : Int32) (j_known : Int32) (j_fat : Int32) (j_flong : Int32) (jm_f : Nat → Int32) (jn_f : Nat → Int32) (jf_f : Nat → Int32) (H : Heap) (locs : List Loc) (ls : Array Slot), tp_it11 (m_Mo_putBlock_5 N ji_f ) n x1 x2 x3 x4 j_made j_known j_fat j_flong jm_f jn_f jf_f = some (j_made', j_known', j_fat', j_flong', jm_f', jn_f', jf_f') → tp_Wd D (tp_ty cB cI) tM A s H locs [(q_j, .inr (7, [.ref q_ji, .int j_in, .ref q_jo, .int j_out, .ref q_jm, .int j_made, .ref q_jn, .ref q_jf, .int j_known, .int j_fat, .int j_flong, .int j_told, .int j_at, .int j_end, .int j_fault, .int j_fp])), (q_ji, .inl (cB, 10000, .inl ji_f)), (q_jo, .inl (cB, 10000, .inl jo_f)), (q_jm, .inl (cB, 20000, .inl jm_f)), (q_jn, .inl (cI, 10001, .inl jn_f)), (q_jf, .inl (cI, 10001, .inl jf_f))] → lv_has ls 8 [(0, .ref q_j), (1, .int x1), (2, .int x2), (3, .int x3), (4, .int x4)] → W p l e rm_Mo_putBlock s m args below meth c H locs 0 0 (MQ below (tp_Qv (S := Unit) D A (fun _ => [(q_j, .inr (7, [.ref q_ji, .int j_in, .ref q_jo, .int j_out, .ref q_jm, .int j_made', .ref q_jn, .ref q_jf, .int j_known', .int j_fat', .int j_flong', .int j_told, .int j_at, .int j_end, .int j_fault, .int j_fp])), (q_ji, .inl (cB, 10000, .inl ji_f)), (q_jo, .inl (cB, 10000, .inl jo_f)), (q_jm, .inl (cB, 20000, .inl jm_f')), (q_jn, .inl (cI, 10001, .inl jn_f')), (q_jf, .inl (cI, 10001, .inl jf_f'))])) args s 0 0 A) (F0 m 5 ls []) := by
  obtain ⟨hF, hr, hlocks⟩ := id hF2
  obtain ⟨hx, hb, hml, hown, hts⟩ := id hF
  intro n
  induction n with
  | zero => intro x1 x2 x3 x4 j_made j_known j_fat j_flong jm_f jn_f jf_f H locs ls hm; exact absurd hm (by simp [tp_it11])
  | succ n ih5 =>
    intro x1 x2 x3 x4 j_made j_known j_fat j_flong jm_f jn_f jf_f H locs ls hm hw hl
    replace hm : m_Mo_putBlock_5 N ji_f  (tp_it11 (m_Mo_putBlock_5 N ji_f ) n) x1 x2 x3 x4 j_made j_known j_fat j_flong jm_f jn_f jf_f = some (j_made', j_known', j_fat', j_flong', jm_f', jn_f', jf_f') := hm
    unfold m_Mo_putBlock_5 at hm
    refine lv_iload hx hb d_Mo_putBlock_5 (lv_at hl 4 rfl) ?_
    refine lv_sipush (v := (128 : Int32)) hx hb d_Mo_putBlock_7 (by decide +kernel) ?_
    refine lv_icmp_lt (tgt := 38) hx hb d_Mo_putBlock_10 (by decide +kernel) (fun hc1 => ?_) (fun hc1 => ?_)
    · replace hm := tp_it hc1 hm
      refine lv_aload_n hx hb d_Mo_putBlock_38 rfl (lv_at hl 0 rfl) ?_
      refine lv_iload hx hb d_Mo_putBlock_39 (lv_at hl 4 rfl) ?_
      obtain ⟨j_made_2, jm_f_3, hm4, hm⟩ := tp_b2_e hm
      refine tp_callv (wr := []) (WS' := [(q_j, .inr (7, [.ref q_ji, .int j_in, .ref q_jo, .int j_out, .ref q_jm, .int j_made_2, .ref q_jn, .ref q_jf, .int j_known, .int j_fat, .int j_flong, .int j_told, .int j_at, .int j_end, .int j_fault, .int j_fp])), (q_ji, .inl (cB, 10000, .inl ji_f)), (q_jo, .inl (cB, 10000, .inl jo_f)), (q_jm, .inl (cB, 20000, .inl jm_f_3)), (q_jn, .inl (cI, 10001, .inl jn_f)), (q_jf, .inl (cI, 10001, .inl jf_f))]) (va_runV (As := [.int x4]) (rest := []) hF (ct_Mo_put (l := l) (D := D) (cB := cB) (cI := cI) (tM := tM) (q_j := q_j) (q_ji := q_ji) (q_jo := q_jo) (q_jm := q_jm) (q_jn := q_jn) (q_jf := q_jf) (j_in := j_in) (j_out := j_out) (j_made := j_made) (j_known := j_known) (j_fat := j_fat) (j_flong := j_flong) (j_told := j_told) (j_at := j_at) (j_end := j_end) (j_fault := j_fault) (j_fp := j_fp) (ji_f := ji_f) (jo_f := jo_f) (jm_f := jm_f) (jn_f := jn_f) (jf_f := jf_f) (x1 := x4) (j_made' := j_made_2) (jm_f' := jm_f_3) hm4 _) (cwV 1 hts (tpG_V wd_341 wd_342 wd_343 wd_340 wd_339) rfl rfl rfl ⟨rfl, yd_Mo_put⟩ ⟨Nat.le_of_ble_eq_true rfl, Nat.le_of_ble_eq_true rfl⟩) ⟨tp_blind, va_recv hw.1 hw.2.1 (ci := 7) (q0 := 0) rfl rfl, tp_pre hw [0, 1, 2, 3, 4, 5] rfl rfl⟩ rfl rfl hl.1 rfl (lv_room (Nat.le_of_ble_eq_true rfl)) d_Mo_putBlock_41 ⟨Nat.le_of_ble_eq_true rfl, Nat.le_of_ble_eq_true rfl⟩) hw [0, 1, 2, 3, 4, 5] [] [0, 1, 2, 3, 4, 5] rfl rfl rfl (by decide) rfl rfl (fun H locs hw => ?_)
      refine lv_iload_n hx hb d_Mo_putBlock_44 rfl (lv_at hl 1 rfl) ?_
      refine lv_istore (lv' := [(5, .int x1), (0, .ref q_j), (1, .int x1), (2, .int x2), (3, .int x3), (4, .int x4)]) hx hb d_Mo_putBlock_45 hl (by decide +kernel) rfl (fun ls hl => ?_)
      refine lv_iload_n hx hb d_Mo_putBlock_47 rfl (lv_at hl 2 rfl) ?_
      refine lv_istore (lv' := [(6, .int x1), (5, .int x1), (0, .ref q_j), (1, .int x1), (2, .int x2), (3, .int x3), (4, .int x4)]) hx hb d_Mo_putBlock_48 hl (by decide +kernel) rfl (fun ls hl => ?_)
      exact w_Mo_putBlock_50 hF2  N _ _ _ _ _ _ _ _ _ _ _ _ _ _ _ hm hw (lv_sub hl [2, 3, 4, 5, 1, 0] rfl)
    · replace hm := tp_if hc1 hm
      refine lv_aload_n hx hb d_Mo_putBlock_13 rfl (lv_at hl 0 rfl) ?_
      refine lv_iload hx hb d_Mo_putBlock_14 (lv_at hl 4 rfl) ?_
      refine lv_sipush (v := (128 : Int32)) hx hb d_Mo_putBlock_16 (by decide +kernel) ?_
      refine lv_irem hx hb d_Mo_putBlock_19 (by decide +kernel) ?_
      refine lv_sipush (v := (128 : Int32)) hx hb d_Mo_putBlock_20 (by decide +kernel) ?_
      refine lv_iadd hx hb d_Mo_putBlock_23 ?_
      obtain ⟨j_made_5, jm_f_6, hm7, hm⟩ := tp_b2_e hm
      refine tp_callv (wr := []) (WS' := [(q_j, .inr (7, [.ref q_ji, .int j_in, .ref q_jo, .int j_out, .ref q_jm, .int j_made_5, .ref q_jn, .ref q_jf, .int j_known, .int j_fat, .int j_flong, .int j_told, .int j_at, .int j_end, .int j_fault, .int j_fp])), (q_ji, .inl (cB, 10000, .inl ji_f)), (q_jo, .inl (cB, 10000, .inl jo_f)), (q_jm, .inl (cB, 20000, .inl jm_f_6)), (q_jn, .inl (cI, 10001, .inl jn_f)), (q_jf, .inl (cI, 10001, .inl jf_f))]) (va_runV (As := [.int ((x4 - x4 / (128 : Int32) * (128 : Int32)) + (128 : Int32))]) (rest := []) hF (ct_Mo_put (l := l) (D := D) (cB := cB) (cI := cI) (tM := tM) (q_j := q_j) (q_ji := q_ji) (q_jo := q_jo) (q_jm := q_jm) (q_jn := q_jn) (q_jf := q_jf) (j_in := j_in) (j_out := j_out) (j_made := j_made) (j_known := j_known) (j_fat := j_fat) (j_flong := j_flong) (j_told := j_told) (j_at := j_at) (j_end := j_end) (j_fault := j_fault) (j_fp := j_fp) (ji_f := ji_f) (jo_f := jo_f) (jm_f := jm_f) (jn_f := jn_f) (jf_f := jf_f) (x1 := ((x4 - x4 / (128 : Int32) * (128 : Int32)) + (128 : Int32))) (j_made' := j_made_5) (jm_f' := jm_f_6) hm7 _) (cwV 1 hts (tpG_V wd_341 wd_342 wd_343 wd_340 wd_339) rfl rfl rfl ⟨rfl, yd_Mo_put⟩ ⟨Nat.le_of_ble_eq_true rfl, Nat.le_of_ble_eq_true rfl⟩) ⟨tp_blind, va_recv hw.1 hw.2.1 (ci := 7) (q0 := 0) rfl rfl, tp_pre hw [0, 1, 2, 3, 4, 5] rfl rfl⟩ rfl rfl hl.1 rfl (lv_room (Nat.le_of_ble_eq_true rfl)) d_Mo_putBlock_24 ⟨Nat.le_of_ble_eq_true rfl, Nat.le_of_ble_eq_true rfl⟩) hw [0, 1, 2, 3, 4, 5] [] [0, 1, 2, 3, 4, 5] rfl rfl rfl (by decide) rfl rfl (fun H locs hw => ?_)
      refine lv_iload hx hb d_Mo_putBlock_27 (lv_at hl 4 rfl) ?_
      refine lv_sipush (v := (128 : Int32)) hx hb d_Mo_putBlock_29 (by decide +kernel) ?_
      refine lv_idiv hx hb d_Mo_putBlock_32 (by decide +kernel) ?_
      refine lv_istore (lv' := [(4, .int (x4 / (128 : Int32))), (0, .ref q_j), (1, .int x1), (2, .int x2), (3, .int x3)]) hx hb d_Mo_putBlock_33 hl (by decide +kernel) rfl (fun ls hl => ?_)
      refine lv_goto (tgt := 5) hx hb d_Mo_putBlock_35 (by decide +kernel) ?_
      exact ih5 _ _ _ _ _ _ _ _ _ _ _ _ _ _ hm hw (lv_sub hl [1, 2, 3, 4, 0] rfl)
set_option maxHeartbeats 4000000 in
set_option maxRecDepth 100000 in
theorem ct_Mo_putBlock {q_j q_ji q_jo q_jm q_jn q_jf : Nat} {j_in : Int32} {j_out : Int32} {j_made : Int32} {j_known : Int32} {j_fat : Int32} {j_flong : Int32} {j_told : Int32} {j_at : Int32} {j_end : Int32} {j_fault : Int32} {j_fp : Int32} {ji_f : Nat → Int32} {jo_f : Nat → Int32} {jm_f : Nat → Int32} {jn_f : Nat → Int32} {jf_f : Nat → Int32} {N : Nat} {x1 : Int32} {x2 : Int32} {x3 : Int32} {j_made' : Int32} {j_known' : Int32} {j_fat' : Int32} {j_flong' : Int32} {jm_f' : Nat → Int32} {jn_f' : Nat → Int32} {jf_f' : Nat → Int32} (hm : m_Mo_putBlock N x1 x2 x3 j_made j_known j_fat j_flong ji_f jm_f jn_f jf_f = some (j_made', j_known', j_fat', j_flong', jm_f', jn_f', jf_f')) (sz : Nat) : tp_Cv l y_Mo_putBlock ws_Mo_putBlock rm_Mo_putBlock D (tp_ty cB cI) tM [.ref q_j, .int x1, .int x2, .int x3] [(q_j, .inr (7, [.ref q_ji, .int j_in, .ref q_jo, .int j_out, .ref q_jm, .int j_made, .ref q_jn, .ref q_jf, .int j_known, .int j_fat, .int j_flong, .int j_told, .int j_at, .int j_end, .int j_fault, .int j_fp])), (q_ji, .inl (cB, 10000, .inl ji_f)), (q_jo, .inl (cB, 10000, .inl jo_f)), (q_jm, .inl (cB, 20000, .inl jm_f)), (q_jn, .inl (cI, 10001, .inl jn_f)), (q_jf, .inl (cI, 10001, .inl jf_f))] sz [(q_j, .inr (7, [.ref q_ji, .int j_in, .ref q_jo, .int j_out, .ref q_jm, .int j_made', .ref q_jn, .ref q_jf, .int j_known', .int j_fat', .int j_flong', .int j_told, .int j_at, .int j_end, .int j_fault, .int j_fp])), (q_ji, .inl (cB, 10000, .inl ji_f)), (q_jo, .inl (cB, 10000, .inl jo_f)), (q_jm, .inl (cB, 20000, .inl jm_f')), (q_jn, .inl (cI, 10001, .inl jn_f')), (q_jf, .inl (cI, 10001, .inl jf_f'))] := by
  refine Met.ofW (cc := c_Mo_putBlock) (maxL := 8) (ret := none) (by decide) rfl ?_
  intro p e s m args below meth c s₁ B hml hv
  obtain ⟨rfl, hv⟩ := hv
  have hw := tp_entry hv
  generalize va_A [(q_j, .inr (7, [.ref q_ji, .int j_in, .ref q_jo, .int j_out, .ref q_jm, .int j_made, .ref q_jn, .ref q_jf, .int j_known, .int j_fat, .int j_flong, .int j_told, .int j_at, .int j_end, .int j_fault, .int j_fp])), (q_ji, .inl (cB, 10000, .inl ji_f)), (q_jo, .inl (cB, 10000, .inl jo_f)), (q_jm, .inl (cB, 20000, .inl jm_f)), (q_jn, .inl (cI, 10001, .inl jn_f)), (q_jf, .inl (cI, 10001, .inl jf_f))] sz = A at hw ⊢
  have hx := B.exec
  have hb := B.bytes
  have hr := B.returns
  have hts0 := atoms_spec (ws := ws_Mo_putBlock) B.pre
  have hts := fun w h => hts0 w (List.mem_cons_of_mem _ h)
  have hown : s.vm.findClass R_Mo = some m.cls := findClass_of_methodNamed B.named
  have hlocks := B.notSynchronized
  have hF : CallFix p m c c_Mo_putBlock 8 s _ tpG R_Mo := ⟨hx, hb, hml, hown, hts⟩
  have hF2 : tp_F p m c c_Mo_putBlock 8 s _ tpG R_Mo meth none := ⟨hF, hr, hlocks⟩
  have hl := lv_entry ([.ref q_j, .int x1, .int x2, .int x3]) (n := 8) (Nat.le_of_ble_eq_true rfl)
  rw [lg_entry_eq]
  generalize (lg_sl ([.ref q_j, .int x1, .int x2, .int x3]) ++ List.replicate (8 - (lg_sl ([.ref q_j, .int x1, .int x2, .int x3])).length) Slot.unset).toArray = ls at hl ⊢
  replace hl : lv_has ls 8 [(0, .ref q_j), (1, .int x1), (2, .int x2), (3, .int x3)] := hl
  unfold m_Mo_putBlock at hm
  refine lv_iload_n hx hb d_Mo_putBlock_0 rfl (lv_at hl 2 rfl) ?_
  refine lv_iload_n hx hb d_Mo_putBlock_1 rfl (lv_at hl 1 rfl) ?_
  refine lv_isub hx hb d_Mo_putBlock_2 ?_
  refine lv_istore (lv' := [(4, .int (x2 - x1)), (0, .ref q_j), (1, .int x1), (2, .int x2), (3, .int x3)]) hx hb d_Mo_putBlock_3 hl (by decide +kernel) rfl (fun ls hl => ?_)
  exact w_Mo_putBlock_5 hF2  N _ _ _ _ _ _ _ _ _ _ _ _ _ _ hm hw (lv_sub hl [1, 2, 3, 4, 0] rfl)
end
