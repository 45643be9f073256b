abbrev rm_Sums_goRight : Room := { frames := 0, cells := 0, slots := 0, locals := 0 }
abbrev ws_Sums_goRight : List Cond := .code y_Sums_goRight c_Sums_goRight 4 (some .int) :: tpG
noncomputable def m_Sums_goRight_4 (N : Nat) (rec4 : Int32 → Int32 → Option (Int32)) (x1 : Int32) (x2 : Int32) : Option (Int32) :=
  if (8 : Int32) ≤ x2 then
    some (x1)
  else
    if (x1 &&& (1 : Int32)) = (1 : Int32) then
      tp_b0 ((tp_ushr x1 (1 : Int32)) ^^^ (-2097792136 : Int32)) fun y3 =>
      rec4 y3 (x2 + (1 : Int32))
    else
      rec4 (tp_ushr x1 (1 : Int32)) (x2 + (1 : Int32))
noncomputable def m_Sums_goRight (N : Nat) (x0 : Int32) : Option (Int32) :=
  tp_it2 (m_Sums_goRight_4 N ) N x0 (0 : Int32)
section
variable {p : Program} {l : Launch} {e : Env} {s : State} {m : MethodId} {args : Array Value} {below : List Frame} {meth : Method} {c : Code} {A : Nat → Prop} {D : va_G} {cB cI : ClassId} {tM : Nat}
set_option maxHeartbeats 4000000 in
set_option maxRecDepth 100000 in
theorem w_Sums_goRight_4 {N : Nat} {r : Int32} (hF2 : tp_F p m c c_Sums_goRight 4 s args tpG R_Sums meth (some .int)) : ∀ (n : Nat), ∀ (x1 : Int32) (x2 : Int32) (H : Heap) (locs : List Loc) (ls : Array Slot), tp_it2 (m_Sums_goRight_4 N ) n x1 x2 = some (r) → tp_Wd D (tp_ty cB cI) tM A s H locs [] → lv_has ls 4 [(1, .int x1), (2, .int x2)] → W p l e rm_Sums_goRight s m args below meth c H locs 0 0 (MQ below (tp_Qi D A r []) args s 0 0 A) (F0 m 4 ls []) := by
  obtain ⟨hF, hr, hlocks⟩ := id hF2
  obtain ⟨hx, hb, hml, hown, hts⟩ := id hF
  intro n
  induction n with
  | zero => intro x1 x2 H locs ls hm; exact absurd hm (by simp [tp_it2])
  | succ n ih4 =>
    intro x1 x2 H locs ls hm hw hl
    replace hm : m_Sums_goRight_4 N  (tp_it2 (m_Sums_goRight_4 N ) n) x1 x2 = some (r) := hm
    unfold m_Sums_goRight_4 at hm
    refine lv_iload_n hx hb d_Sums_goRight_4 rfl (lv_at hl 1 rfl) ?_
    refine lv_bipush (v := (8 : Int32)) hx hb d_Sums_goRight_5 (by decide +kernel) ?_
    refine lv_icmp_ge (tgt := 34) hx hb d_Sums_goRight_7 (by decide +kernel) (fun hc1 => ?_) (fun hc1 => ?_)
    · replace hm := tp_it hc1 hm
      refine lv_iload_n hx hb d_Sums_goRight_34 rfl (lv_at hl 0 rfl) ?_
      obtain rfl := tp_inj1 hm
      exact tp_iret hx hb hr hlocks hw d_Sums_goRight_35
    · replace hm := tp_if hc1 hm
      refine lv_iload_n hx hb d_Sums_goRight_10 rfl (lv_at hl 0 rfl) ?_
      refine lv_iconst (v := (1 : Int32)) hx hb d_Sums_goRight_11 (by decide +kernel) ?_
      refine lv_iand hx hb d_Sums_goRight_12 ?_
      refine lv_istore_n (lv' := [(3, .int (x1 &&& (1 : Int32))), (1, .int x1), (2, .int x2)]) hx hb d_Sums_goRight_13 rfl hl (by decide +kernel) rfl (fun ls hl => ?_)
      refine lv_iload_n hx hb d_Sums_goRight_14 rfl (lv_at hl 1 rfl) ?_
      refine lv_iconst (v := (1 : Int32)) hx hb d_Sums_goRight_15 (by decide +kernel) ?_
      refine lv_iushr (v := (tp_ushr x1 (1 : Int32))) hx hb d_Sums_goRight_16 rfl ?_
      refine lv_istore_n (lv' := [(1, .int (tp_ushr x1 (1 : Int32))), (3, .int (x1 &&& (1 : Int32))), (2, .int x2)]) hx hb d_Sums_goRight_17 rfl hl (by decide +kernel) rfl (fun ls hl => ?_)
      refine lv_iload_n hx hb d_Sums_goRight_18 rfl (lv_at hl 1 rfl) ?_
      refine lv_iconst (v := (1 : Int32)) hx hb d_Sums_goRight_19 (by decide +kernel) ?_
      refine lv_icmp_ne (tgt := 28) hx hb d_Sums_goRight_20 (by decide +kernel) (fun hc2 => ?_) (fun hc2 => ?_)
      · replace hm := tp_if hc2 hm
        refine lv_iinc (v := (x2 + (1 : Int32))) (lv' := [(2, .int (x2 + (1 : Int32))), (1, .int (tp_ushr x1 (1 : Int32))), (3, .int (x1 &&& (1 : Int32)))]) hx hb d_Sums_goRight_28 hl (k := 2) rfl rfl (by decide +kernel) rfl (fun ls hl => ?_)
        refine lv_goto (tgt := 4) hx hb d_Sums_goRight_31 (by decide +kernel) ?_
        exact ih4 _ _ _ _ _ hm hw (lv_sub hl [1, 0] rfl)
      · replace hm := tp_it hc2 hm
        refine lv_iload_n hx hb d_Sums_goRight_23 rfl (lv_at hl 0 rfl) ?_
        refine lv_ldc (v := (-2097792136 : Int32)) hx hb hown (hts _ wd_23) d_Sums_goRight_24 ?_
        refine lv_ixor hx hb d_Sums_goRight_26 ?_
        obtain ⟨y3, ey3, hm⟩ := tp_b0_e hm
        refine tp_topi ey3 ?_
        refine lv_istore_n (lv' := [(1, .int y3), (3, .int (x1 &&& (1 : Int32))), (2, .int x2)]) hx hb d_Sums_goRight_27 rfl hl (by decide +kernel) rfl (fun ls hl => ?_)
        refine lv_iinc (v := (x2 + (1 : Int32))) (lv' := [(2, .int (x2 + (1 : Int32))), (1, .int y3), (3, .int (x1 &&& (1 : Int32)))]) hx hb d_Sums_goRight_28 hl (k := 2) rfl rfl (by decide +kernel) rfl (fun ls hl => ?_)
        refine lv_goto (tgt := 4) hx hb d_Sums_goRight_31 (by decide +kernel) ?_
        exact ih4 _ _ _ _ _ hm hw (lv_sub hl [1, 0] rfl)
set_option maxHeartbeats 4000000 in
set_option maxRecDepth 100000 in
theorem ct_Sums_goRight {N : Nat} {x0 : Int32} {r : Int32} (hm : m_Sums_goRight N x0 = some (r)) (sz : Nat) : tp_Ci l y_Sums_goRight ws_Sums_goRight rm_Sums_goRight D (tp_ty cB cI) tM [.int x0] [] sz r [] := by
  refine Met.ofW (cc := c_Sums_goRight) (maxL := 4) (ret := (some .int)) (by decide) rfl ?_
  intro p e s m args below meth c s₁ B hml hv
  obtain ⟨rfl, hv⟩ := hv
  have hw := tp_entry hv
  generalize va_A [] sz = A at hw ⊢
  have hx := B.exec
  have hb := B.bytes
  have hr := B.returns
  have hts0 := atoms_spec (ws := ws_Sums_goRight) B.pre
  have hts := fun w h => hts0 w (List.mem_cons_of_mem _ h)
  have hown : s.vm.findClass R_Sums = some m.cls := findClass_of_methodNamed B.named
  have hlocks := B.notSynchronized
  have hF : CallFix p m c c_Sums_goRight 4 s _ tpG R_Sums := ⟨hx, hb, hml, hown, hts⟩
  have hF2 : tp_F p m c c_Sums_goRight 4 s _ tpG R_Sums meth (some .int) := ⟨hF, hr, hlocks⟩
  have hl := lv_entry ([.int x0]) (n := 4) (Nat.le_of_ble_eq_true rfl)
  rw [lg_entry_eq]
  generalize (lg_sl ([.int x0]) ++ List.replicate (4 - (lg_sl ([.int x0])).length) Slot.unset).toArray = ls at hl ⊢
  replace hl : lv_has ls 4 [(0, .int x0)] := hl
  unfold m_Sums_goRight at hm
  refine lv_iload_n hx hb d_Sums_goRight_0 rfl (lv_at hl 0 rfl) ?_
  refine lv_istore_n (lv' := [(1, .int x0), (0, .int x0)]) hx hb d_Sums_goRight_1 rfl hl (by decide +kernel) rfl (fun ls hl => ?_)
  refine lv_iconst (v := (0 : Int32)) hx hb d_Sums_goRight_2 (by decide +kernel) ?_
  refine lv_istore_n (lv' := [(2, .int (0 : Int32)), (1, .int x0), (0, .int x0)]) hx hb d_Sums_goRight_3 rfl hl (by decide +kernel) rfl (fun ls hl => ?_)
  exact w_Sums_goRight_4 hF2  N _ _ _ _ _ hm hw (lv_sub hl [1, 0] rfl)
end
abbrev rm_Sums_sumOf : Room := { frames := 1, cells := 0, slots := 0, locals := 23 }
abbrev ws_Sums_sumOf : List Cond := .code y_Sums_sumOf c_Sums_sumOf 5 (some .int) :: tpG
noncomputable def m_Sums_sumOf_5 (N : Nat) (b_c : Int32) (b_f : Nat → Int32) (rec5 : Int32 → Int32 → Int32 → Option (Int32)) (x2 : Int32) (x3 : Int32) (x4 : Int32) : Option (Int32) :=
  if x2 ≤ x4 then
    some (((((x3 ^^^ (-1 : Int32)) <<< ((17 : Int32) &&& 31)) ||| (tp_ushr (x3 ^^^ (-1 : Int32)) (15 : Int32))) + (-1568478504 : Int32)))
  else
    tp_b1 (m_Row_at x4 b_c b_f) fun r2 =>
    tp_b1 (m_Sums_goRight N (x3 ^^^ r2)) fun r4 =>
    rec5 x2 r4 (x4 + (1 : Int32))
noncomputable def m_Sums_sumOf (N : Nat) (x1 : Int32) (x2 : Int32) (b_c : Int32) (b_f : Nat → Int32) : Option (Int32) :=
  tp_it3 (m_Sums_sumOf_5 N b_c b_f ) N x2 (-1 : Int32) x1
section
variable {p : Program} {l : Launch} {e : Env} {s : State} {m : MethodId} {args : Array Value} {below : List Frame} {meth : Method} {c : Code} {A : Nat → Prop} {D : va_G} {cB cI : ClassId} {tM : Nat}
set_option maxHeartbeats 4000000 in
set_option maxRecDepth 100000 in
theorem w_Sums_sumOf_5 {q_b q_bB : Nat} {b_c : Int32} {b_f : Nat → Int32} {N : Nat} {r : Int32} (hF2 : tp_F p m c c_Sums_sumOf 5 s args tpG R_Sums meth (some .int)) : ∀ (n : Nat), ∀ (x2 : Int32) (x3 : Int32) (x4 : Int32) (H : Heap) (locs : List Loc) (ls : Array Slot), tp_it3 (m_Sums_sumOf_5 N b_c b_f ) n x2 x3 x4 = some (r) → tp_Wd D (tp_ty cB cI) tM A s H locs [(q_b, .inr (3, [.ref q_bB, .int b_c])), (q_bB, .inl (cB, 10000, .inl b_f))] → lv_has ls 5 [(0, .ref q_b), (2, .int x2), (3, .int x3), (4, .int x4)] → W p l e rm_Sums_sumOf s m args below meth c H locs 0 0 (MQ below (tp_Qi D A r [(q_b, .inr (3, [.ref q_bB, .int b_c])), (q_bB, .inl (cB, 10000, .inl b_f))]) args s 0 0 A) (F0 m 5 ls []) := by
  obtain ⟨hF, hr, hlocks⟩ := id hF2
  obtain ⟨hx, hb, hml, hown, hts⟩ := id hF
  intro n
  induction n with
  | zero => intro x2 x3 x4 H locs ls hm; exact absurd hm (by simp [tp_it3])
  | succ n ih5 =>
    intro x2 x3 x4 H locs ls hm hw hl
    replace hm : m_Sums_sumOf_5 N b_c b_f  (tp_it3 (m_Sums_sumOf_5 N b_c b_f ) n) x2 x3 x4 = some (r) := hm
    unfold m_Sums_sumOf_5 at hm
    refine lv_iload hx hb d_Sums_sumOf_5 (lv_at hl 3 rfl) ?_
    refine lv_iload_n hx hb d_Sums_sumOf_7 rfl (lv_at hl 1 rfl) ?_
    refine lv_icmp_ge (tgt := 29) hx hb d_Sums_sumOf_8 (by decide +kernel) (fun hc1 => ?_) (fun hc1 => ?_)
    · replace hm := tp_it hc1 hm
      refine lv_iload_n hx hb d_Sums_sumOf_29 rfl (lv_at hl 2 rfl) ?_
      refine lv_iconst (v := (-1 : Int32)) hx hb d_Sums_sumOf_30 (by decide +kernel) ?_
      refine lv_ixor hx hb d_Sums_sumOf_31 ?_
      refine lv_istore (lv' := [(4, .int (x3 ^^^ (-1 : Int32))), (0, .ref q_b), (2, .int x2), (3, .int x3)]) hx hb d_Sums_sumOf_32 hl (by decide +kernel) rfl (fun ls hl => ?_)
      refine lv_iload hx hb d_Sums_sumOf_34 (lv_at hl 0 rfl) ?_
      refine lv_bipush (v := (17 : Int32)) hx hb d_Sums_sumOf_36 (by decide +kernel) ?_
      refine lv_ishl hx hb d_Sums_sumOf_38 ?_
      refine lv_iload hx hb d_Sums_sumOf_39 (lv_at hl 0 rfl) ?_
      refine lv_bipush (v := (15 : Int32)) hx hb d_Sums_sumOf_41 (by decide +kernel) ?_
      refine lv_iushr (v := (tp_ushr (x3 ^^^ (-1 : Int32)) (15 : Int32))) hx hb d_Sums_sumOf_43 rfl ?_
      refine lv_ior hx hb d_Sums_sumOf_44 ?_
      refine lv_ldc (v := (-1568478504 : Int32)) hx hb hown (hts _ wd_24) d_Sums_sumOf_45 ?_
      refine lv_iadd hx hb d_Sums_sumOf_47 ?_
      obtain rfl := tp_inj1 hm
      exact tp_iret hx hb hr hlocks hw d_Sums_sumOf_48
    · replace hm := tp_if hc1 hm
      refine lv_iload_n hx hb d_Sums_sumOf_11 rfl (lv_at hl 2 rfl) ?_
      refine lv_aload_n hx hb d_Sums_sumOf_12 rfl (lv_at hl 0 rfl) ?_
      refine lv_iload hx hb d_Sums_sumOf_13 (lv_at hl 3 rfl) ?_
      obtain ⟨r2, hm3, hm⟩ := tp_b1_e hm
      refine tp_calli (wr := []) (WS' := [(q_b, .inr (3, [.ref q_bB, .int b_c])), (q_bB, .inl (cB, 10000, .inl b_f))]) (va_runV (As := [.int x4]) (rest := [.int x3]) hF (ct_Row_at (l := l) (D := D) (cB := cB) (cI := cI) (tM := tM) (q_a := q_b) (q_aB := q_bB) (a_c := b_c) (a_f := b_f) (x1 := x4) (r := r2) hm3 _) (cwV 1 hts (tpG_V wd_25 wd_13 wd_14 wd_3 wd_11) rfl rfl rfl ⟨rfl, yd_Row_at⟩ ⟨Nat.le_of_ble_eq_true rfl, Nat.le_of_ble_eq_true rfl⟩) ⟨tp_blind, va_recv hw.1 hw.2.1 (ci := 3) (q0 := 0) rfl rfl, tp_pre hw [0, 1] rfl rfl⟩ rfl rfl hl.1 rfl (lv_room (Nat.le_of_ble_eq_true rfl)) d_Sums_sumOf_15 ⟨Nat.le_of_ble_eq_true rfl, Nat.le_of_ble_eq_true rfl⟩) hw [0, 1] [] [0, 1] rfl rfl rfl (by decide) rfl rfl (fun H locs hw => ?_)
      refine lv_ixor hx hb d_Sums_sumOf_18 ?_
      obtain ⟨r4, hm5, hm⟩ := tp_b1_e hm
      refine tp_calli (wr := [(q_b, .inr (3, [.ref q_bB, .int b_c])), (q_bB, .inl (cB, 10000, .inl b_f))]) (WS' := [(q_b, .inr (3, [.ref q_bB, .int b_c])), (q_bB, .inl (cB, 10000, .inl b_f))]) (va_runS (As := [.int (x3 ^^^ r2)]) (rest := []) hF (ct_Sums_goRight (l := l) (D := D) (cB := cB) (cI := cI) (tM := tM) (x0 := (x3 ^^^ r2)) (N := N) (r := r4) hm5 _) (va_cwS 1 hts (tpG_S wd_28 wd_29 wd_27 wd_26) rfl rfl rfl yd_Sums_goRight ⟨Nat.le_of_ble_eq_true rfl, Nat.le_of_ble_eq_true rfl⟩) ⟨tp_blind, tp_pre hw [] rfl rfl⟩ rfl rfl hl.1 rfl (lv_room (Nat.le_of_ble_eq_true rfl)) d_Sums_sumOf_19 ⟨Nat.le_of_ble_eq_true rfl, Nat.le_of_ble_eq_true rfl⟩) hw [] [0, 1] [0, 1] rfl rfl rfl (by decide) rfl rfl (fun H locs hw => ?_)
      refine lv_istore_n (lv' := [(3, .int r4), (0, .ref q_b), (2, .int x2), (4, .int x4)]) hx hb d_Sums_sumOf_22 rfl hl (by decide +kernel) rfl (fun ls hl => ?_)
      refine lv_iinc (v := (x4 + (1 : Int32))) (lv' := [(4, .int (x4 + (1 : Int32))), (3, .int r4), (0, .ref q_b), (2, .int x2)]) hx hb d_Sums_sumOf_23 hl (k := 3) rfl rfl (by decide +kernel) rfl (fun ls hl => ?_)
      refine lv_goto (tgt := 5) hx hb d_Sums_sumOf_26 (by decide +kernel) ?_
      exact ih5 _ _ _ _ _ _ hm hw (lv_sub hl [2, 3, 1, 0] rfl)
set_option maxHeartbeats 4000000 in
set_option maxRecDepth 100000 in
theorem ct_Sums_sumOf {q_b q_bB : Nat} {b_c : Int32} {b_f : Nat → Int32} {N : Nat} {x1 : Int32} {x2 : Int32} {r : Int32} (hm : m_Sums_sumOf N x1 x2 b_c b_f = some (r)) (sz : Nat) : tp_Ci l y_Sums_sumOf ws_Sums_sumOf rm_Sums_sumOf D (tp_ty cB cI) tM [.ref q_b, .int x1, .int x2] [(q_b, .inr (3, [.ref q_bB, .int b_c])), (q_bB, .inl (cB, 10000, .inl b_f))] sz r [(q_b, .inr (3, [.ref q_bB, .int b_c])), (q_bB, .inl (cB, 10000, .inl b_f))] := by
  refine Met.ofW (cc := c_Sums_sumOf) (maxL := 5) (ret := (some .int)) (by decide) rfl ?_
  intro p e s m args below meth c s₁ B hml hv
  obtain ⟨rfl, hv⟩ := hv
  have hw := tp_entry hv
  generalize va_A [(q_b, .inr (3, [.ref q_bB, .int b_c])), (q_bB, .inl (cB, 10000, .inl b_f))] sz = A at hw ⊢
  have hx := B.exec
  have hb := B.bytes
  have hr := B.returns
  have hts0 := atoms_spec (ws := ws_Sums_sumOf) B.pre
  have hts := fun w h => hts0 w (List.mem_cons_of_mem _ h)
  have hown : s.vm.findClass R_Sums = some m.cls := findClass_of_methodNamed B.named
  have hlocks := B.notSynchronized
  have hF : CallFix p m c c_Sums_sumOf 5 s _ tpG R_Sums := ⟨hx, hb, hml, hown, hts⟩
  have hF2 : tp_F p m c c_Sums_sumOf 5 s _ tpG R_Sums meth (some .int) := ⟨hF, hr, hlocks⟩
  have hl := lv_entry ([.ref q_b, .int x1, .int x2]) (n := 5) (Nat.le_of_ble_eq_true rfl)
  rw [lg_entry_eq]
  generalize (lg_sl ([.ref q_b, .int x1, .int x2]) ++ List.replicate (5 - (lg_sl ([.ref q_b, .int x1, .int x2])).length) Slot.unset).toArray = ls at hl ⊢
  replace hl : lv_has ls 5 [(0, .ref q_b), (1, .int x1), (2, .int x2)] := hl
  unfold m_Sums_sumOf at hm
  refine lv_iconst (v := (-1 : Int32)) hx hb d_Sums_sumOf_0 (by decide +kernel) ?_
  refine lv_istore_n (lv' := [(3, .int (-1 : Int32)), (0, .ref q_b), (1, .int x1), (2, .int x2)]) hx hb d_Sums_sumOf_1 rfl hl (by decide +kernel) rfl (fun ls hl => ?_)
  refine lv_iload_n hx hb d_Sums_sumOf_2 rfl (lv_at hl 2 rfl) ?_
  refine lv_istore (lv' := [(4, .int x1), (3, .int (-1 : Int32)), (0, .ref q_b), (1, .int x1), (2, .int x2)]) hx hb d_Sums_sumOf_3 hl (by decide +kernel) rfl (fun ls hl => ?_)
  exact w_Sums_sumOf_5 hF2  N _ _ _ _ _ _ hm hw (lv_sub hl [2, 4, 1, 0] rfl)
end
