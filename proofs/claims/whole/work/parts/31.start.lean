theorem tp_nest_of {w : Cond} (h : tp_isNest w = true) {a : Array Value} {U : State} (hZ : w.before a U = true) : va_Nw w U := by
  cases w <;> first | exact va_Nw.of rfl hZ | (simp [tp_isNest] at h)
set_option maxHeartbeats 4000000 in
set_option maxRecDepth 100000 in
/-- what holds of the world at the start -/
theorem law_world {p : Program} {s : State} {m : MethodId} {meth : Method} {c : Code} {b L : Nat} {xs : Nat → Int32} (C0 : lw_At p s m meth c b L xs) : ∃ (D : va_G) (cB cI : ClassId) (tM : Nat), tp_Wd D (tp_ty cB cI) tM (fun q : Nat => s.heap.size ≤ q) s s.heap [] [] := by
  obtain ⟨hx, hb, hr, hml, hown, hts0, hX, hbl, hlocks, hgv⟩ := id C0
  have hts : ∀ w ∈ tpG, w.before #[Value.ref b] s = true := fun w h => hts0 w (List.mem_filter.mp h).1
  obtain ⟨c0, i0, h0⟩ := u_known (C := R_BlockReader) (T := T_BlockReader) (N := 8) (n := 8) hts fw_BlockReader (hts _ wd_323)
  obtain ⟨c1, i1, h1⟩ := u_known (C := R_BlockWriter) (T := T_BlockWriter) (N := 3) (n := 3) hts fw_BlockWriter (hts _ wd_313)
  obtain ⟨c2, i2, h2⟩ := u_known (C := R_Matches) (T := T_Matches) (N := 7) (n := 7) hts fw_Matches (hts _ wd_308)
  obtain ⟨c3, i3, h3⟩ := u_known (C := R_Row) (T := T_Row) (N := 2) (n := 2) hts fw_Row (hts _ wd_304)
  obtain ⟨c4, i4, h4⟩ := u_known (C := R_StreamReader) (T := T_StreamReader) (N := 7) (n := 7) hts fw_StreamReader (hts _ wd_328)
  obtain ⟨c5, i5, h5⟩ := u_known (C := R_StreamWriter) (T := T_StreamWriter) (N := 3) (n := 3) hts fw_StreamWriter (hts _ wd_318)
  obtain ⟨c6, i6, h6⟩ := u_known (C := R_TP) (T := T_TP) (N := 9) (n := 9) hts fw_TP (hts _ wd_573)
  obtain ⟨c7, i7, h7⟩ := u_known (C := R_Mo) (T := T_Mo) (N := 16) (n := 16) hts fw_Mo (hts _ wd_578)
  obtain ⟨dC, dI, hKc⟩ : ∃ (dC : Nat → ClassId) (dI : Nat → Nat → Nat), ∀ (k : Nat) (q : vw_C), vwCl[k]? = some q → u_Kn s q.1 q.2.1 q.2.2 (dC k) (dI k) := by
    refine ⟨fun k => if k = 0 then c0 else if k = 1 then c1 else if k = 2 then c2 else if k = 3 then c3 else if k = 4 then c4 else if k = 5 then c5 else if k = 6 then c6 else c7, fun k => if k = 0 then i0 else if k = 1 then i1 else if k = 2 then i2 else if k = 3 then i3 else if k = 4 then i4 else if k = 5 then i5 else if k = 6 then i6 else i7, ?_⟩
    intro k q hq
    match k, hq with
    | 0, hq => cases hq; exact h0
    | 1, hq => cases hq; exact h1
    | 2, hq => cases hq; exact h2
    | 3, hq => cases hq; exact h3
    | 4, hq => cases hq; exact h4
    | 5, hq => cases hq; exact h5
    | 6, hq => cases hq; exact h6
    | 7, hq => cases hq; exact h7
    | k + 8, hq => simp [vwCl] at hq
  obtain ⟨cB, kB, pB, hB1, hB2, hB3⟩ := Cond.arrayClass_spec (hts _ wd_295)
  obtain ⟨cI, kI, pI, hI1, hI2, hI3⟩ := Cond.arrayClass_spec (hts _ wd_297)
  have hK : va_K (dC, dI) vwCl (tp_ty cB cI) s := by
    refine ⟨hKc, fun k q hq => ?_⟩
    match k, hq with
    | 0, hq => cases hq; exact ⟨fun n z => ⟨fun k h => (by cases h), kB, hB2, pB, hB3⟩, hB1⟩
    | 1, hq => cases hq; exact ⟨fun n z => ⟨fun k h => (by cases h), kI, hI2, pI, hI3⟩, hI1⟩
    | k + 2, hq => simp [tp_ty] at hq
  have hs := flat_of_before _ hgv
  have hA : ∀ a : Nat, a < s.heap.size → ¬ s.heap.size ≤ a := fun a h => Nat.not_le.mpr h
  obtain ⟨tM, htM, hT⟩ := va_Tof (A := fun q : Nat => s.heap.size ≤ q) (N := 6) (f := fun j => .int (tp_mark j)) (by decide) (hs (.arrayOf (.static "TagPress$Chunk" "MARK" "[I") .int) (by decide +kernel)) (va_eqt (hs (.eq (.length (.static "TagPress$Chunk" "MARK" "[I")) (.int 6)) (by decide +kernel))) (fun j hj => by
    match j, hj with
    | 0, _ => exact va_eqt (hs (.eq (.elem (.static "TagPress$Chunk" "MARK" "[I") (.int 0)) (.int 115)) (by decide +kernel))
    | 1, _ => exact va_eqt (hs (.eq (.elem (.static "TagPress$Chunk" "MARK" "[I") (.int 1)) (.int 78)) (by decide +kernel))
    | 2, _ => exact va_eqt (hs (.eq (.elem (.static "TagPress$Chunk" "MARK" "[I") (.int 2)) (.int 97)) (by decide +kernel))
    | 3, _ => exact va_eqt (hs (.eq (.elem (.static "TagPress$Chunk" "MARK" "[I") (.int 3)) (.int 80)) (by decide +kernel))
    | 4, _ => exact va_eqt (hs (.eq (.elem (.static "TagPress$Chunk" "MARK" "[I") (.int 4)) (.int 112)) (by decide +kernel))
    | 5, _ => exact va_eqt (hs (.eq (.elem (.static "TagPress$Chunk" "MARK" "[I") (.int 5)) (.int 89)) (by decide +kernel))
    | j + 6, h => exact absurd h (by omega)) hA
  have hZ := va_Zof (A := fun q : Nat => s.heap.size ≤ q) (hts0 (.laysStatic "TagPress$Chunk" "MARK" "[I") (List.mem_of_getElem? (i := 443) (by decide +kernel))) (hts0 (.initialized "TagPress$Chunk") (List.mem_of_getElem? (i := 63) (by decide +kernel))) htM hA
  refine ⟨(dC, dI), cB, cI, tM, hK, fun k q h => by simp at h, ⟨fun i j p q h => by simp at h, fun k q h => by simp at h⟩, va_S.rf, fun w h => ?_, fun _ h => h, hZ, hT⟩
  exact tp_nest_of (tp_nw_is w h) (hts0 w (tp_nw_in w h))
