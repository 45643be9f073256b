/-! Words of mine over the kit: a world and its environment in one hypothesis (tp_Wd); contracts whose answer and world are given (tp_Ci, tp_Cl, tp_Cv); a pure model's steps (tp_b0 ..). -/
theorem tp_inb_v {i : Int32} {n : Nat} (h : tp_inb i n = true) : vp_in i n := by
  unfold tp_inb at h
  unfold vp_in
  exact of_decide_eq_true h
def tp_isNest : Cond → Bool
  | .fieldLinkNest .. => true
  | .methodLinkNest .. => true
  | _ => false
theorem tp_nest_warm {w : Cond} (h : tp_isNest w = true) {s U : State} (hW : s.WarmedH U.vm) (hZ : va_Nw w s) : va_Nw w U := by
  cases w <;> first | exact va_Nw.warmF hW hZ | exact va_Nw.warmM hW hZ | (simp [tp_isNest] at h)
theorem tp_nest_same {w : Cond} (h : tp_isNest w = true) {u U : State} (e : u.vm = U.vm) (hZ : va_Nw w u) : va_Nw w U := by
  cases w <;> first | exact va_Nw.same rfl e hZ | (simp [tp_isNest] at h)
theorem tp_nw_is : ∀ w ∈ tp_nw, tp_isNest w = true := by decide +kernel
theorem tp_St_moved {tM : Nat} {A : Nat → Prop} {u U : State} {H : Heap} (hvm : u.vm.Alike U.vm) (h : tp_St tM A u H) : tp_St tM A U H := ⟨va_Z.moved hvm h.1, va_T.moved hvm h.2⟩
theorem tp_St_kept {tM : Nat} {A : Nat → Prop} {U : State} {H H1 : Heap} (h : tp_St tM A U H) (hq : ∀ a : Nat, a < H.size → ¬ A a → H1[a]? = H[a]?) : tp_St tM A U H1 := ⟨va_Z.kept h.1 hq, va_T.kept h.2 hq⟩
theorem tp_St_narrow {tM : Nat} {A B : Nat → Prop} {U : State} {H : Heap} (h : tp_St tM A U H) (hAB : ∀ q, B q → A q) : tp_St tM B U H := ⟨va_Z.narrow h.1 hAB, va_T.narrow h.2 hAB⟩
/-- before a call -/
def tp_Pre (D : va_G) (ty : List (ClassId × FieldType)) (tM : Nat) (WS : va_W) (sz : Nat) (U : State) : Prop :=
  U.heap.size = sz ∧ va_P D vwCl WS U.heap ∧ va_K D vwCl ty U ∧ va_D (fun _ => True) WS ∧ (∀ w ∈ tp_nw, va_Nw w U) ∧ tp_St tM (va_A WS sz) U U.heap
/-- within a method -/
def tp_Wd (D : va_G) (ty : List (ClassId × FieldType)) (tM : Nat) (A : Nat → Prop) (s : State) (H : Heap) (locs : List Loc) (WS : va_W) : Prop :=
  va_K D vwCl ty s ∧ va_P D vwCl WS H ∧ va_D A WS ∧ va_S A s.heap H locs ∧ (∀ w ∈ tp_nw, va_Nw w s) ∧ (∀ q, s.heap.size ≤ q → A q) ∧ tp_St tM A s s.heap
/-- behind a call -/
def tp_B (D : va_G) (A : Nat → Prop) (WS : va_W) (t : State) : Prop := va_P D vwCl WS t.heap ∧ va_D A WS
abbrev tp_Qi (D : va_G) (A : Nat → Prop) (r : Int32) (WS : va_W) : Array Value → State → Outcome → State → Prop := va_Qi (fun (x : Int32) (_ : Unit) => x = r) (fun _ => tp_B D A WS) A
abbrev tp_Ql (D : va_G) (A : Nat → Prop) (r : Int64) (WS : va_W) : Array Value → State → Outcome → State → Prop := va_Ql (fun (x : Int64) (_ : Unit) => x = r) (fun _ => tp_B D A WS) A
abbrev tp_Qv {S : Type} (D : va_G) (A : Nat → Prop) (WS : S → va_W) : Array Value → State → Outcome → State → Prop := va_Qv (fun _ : S => True) (fun u => tp_B D A (WS u)) A
abbrev tp_Ci (l : Launch) (y : MethodName) (ws : List Cond) (rm : Room) (D : va_G) (ty : List (ClassId × FieldType)) (tM : Nat) (As : List Value) (WS : va_W) (sz : Nat) (r : Int32) (WS' : va_W) : Prop :=
  Met l y ws rm (va_Pc As (tp_Pre D ty tM WS sz)) (tp_Qi D (va_A WS sz) r WS') 0 0 (va_A WS sz)
abbrev tp_Cl (l : Launch) (y : MethodName) (ws : List Cond) (rm : Room) (D : va_G) (ty : List (ClassId × FieldType)) (tM : Nat) (As : List Value) (WS : va_W) (sz : Nat) (r : Int64) (WS' : va_W) : Prop :=
  Met l y ws rm (va_Pc As (tp_Pre D ty tM WS sz)) (tp_Ql D (va_A WS sz) r WS') 0 0 (va_A WS sz)
abbrev tp_Cv (l : Launch) (y : MethodName) (ws : List Cond) (rm : Room) (D : va_G) (ty : List (ClassId × FieldType)) (tM : Nat) (As : List Value) (WS : va_W) (sz : Nat) (WS' : va_W) : Prop :=
  Met l y ws rm (va_Pc As (tp_Pre D ty tM WS sz)) (tp_Qv (S := Unit) D (va_A WS sz) (fun _ => WS')) 0 0 (va_A WS sz)
abbrev tp_Cn {S : Type} (l : Launch) (y : MethodName) (ws : List Cond) (rm : Room) (D : va_G) (ty : List (ClassId × FieldType)) (tM : Nat) (As : List Value) (WS : va_W) (sz : Nat) (WS' : S → va_W) (mc ms : Nat) : Prop :=
  Met l y ws rm (va_Pc As (tp_Pre D ty tM WS sz)) (tp_Qv D (va_A WS sz) WS') mc ms (va_A WS sz)
/-- what a walk stands on, the same over a method -/
def tp_F (p : Program) (m : MethodId) (c : Code) (cc : ByteArray) (nL : Nat) (s : State) (args : Array Value) (Ts : List Cond) (own : String) (meth : Method) (ret : Option FieldType) : Prop :=
  CallFix p m c cc nL s args Ts own ∧ meth.sig.returnType = ret ∧ meth.locks = false
theorem tp_P_map {D : va_G} {cl : List vw_C} {WS WSc : va_W} {H : Heap} {isC : List Nat} (hP : va_P D cl WS H) (hC : isC.map (fun i => WS[i]?) = WSc.map some) : va_P D cl WSc H := by
  intro k q hk
  have h1 : (isC.map (fun i => WS[i]?))[k]? = some (some q) := by rw [hC, List.getElem?_map, hk]; rfl
  rw [List.getElem?_map] at h1
  cases hi : isC[k]? with
  | none => rw [hi] at h1; cases h1
  | some i => rw [hi] at h1; exact hP i q (Option.some.inj h1)
theorem tp_entry {D : va_G} {ty : List (ClassId × FieldType)} {tM : Nat} {WS : va_W} {sz : Nat} {s : State} (h : tp_Pre D ty tM WS sz s) : tp_Wd D ty tM (va_A WS sz) s s.heap [] WS := by
  obtain ⟨h0, hP, hK, hD, hN, hZ⟩ := h
  subst h0
  exact ⟨hK, hP, hD.self, va_S.rf, hN, fun q h => Or.inr h, hZ⟩
theorem tp_blind {D : va_G} {ty : List (ClassId × FieldType)} {tM : Nat} {WS : va_W} {sz : Nat} {As : List Value} : FrameBlind (va_Pc As (tp_Pre D ty tM WS sz)) := by
  intro a U g mk h
  obtain ⟨h1, h2, hP, hK, hD, hN, hZ⟩ := h
  exact ⟨h1, h2, hP, va_K.moved (u := U) (U := U.calling g mk a) (Vm.Alike.refl U.vm) hK, hD, fun w hw => tp_nest_same (tp_nw_is w hw) (u := U) (U := U.calling g mk a) rfl (hN w hw), tp_St_moved (u := U) (U := U.calling g mk a) (Vm.Alike.refl U.vm) hZ⟩
theorem tp_pre {D : va_G} {ty : List (ClassId × FieldType)} {tM : Nat} {A : Nat → Prop} {s : State} {H : Heap} {locs : List Loc} {WS WSc : va_W} (hw : tp_Wd D ty tM A s H locs WS) (isC : List Nat) (hC : isC.map (fun i => WS[i]?) = WSc.map some) (hn : va_nd isC = true) {As : List Value} : ∀ U : State, U.heap = H → s.WarmedH U.vm → va_Pc As (tp_Pre D ty tM WSc H.size) As.toArray U := by
  intro U hU hW
  obtain ⟨hK, hP, hD, hS, hN, hA, hZ⟩ := hw
  have hF := va_free (wc := WSc) hD hS hA isC hC
  refine ⟨rfl, by rw [hU], ?_, va_K.moved hW.alike hK, (hD.sub isC hn hC).weaken (fun _ _ _ _ => trivial), fun w h => tp_nest_warm (tp_nw_is w h) hW (hN w h), ?_⟩
  · rw [hU]; exact tp_P_map hP hC
  · rw [hU]; exact tp_St_moved hW.alike (tp_St_narrow (tp_St_kept hZ hS.2.1) hF)
theorem tp_post {D : va_G} {ty : List (ClassId × FieldType)} {tM : Nat} {A : Nat → Prop} {s : State} {H H1 : Heap} {locs locs1 : List Loc} {WS WSc WSd wr WS' : va_W} {t : State} (hw : tp_Wd D ty tM A s H locs WS) {isC isR isB : List Nat} (hC : isC.map (fun i => WS[i]?) = WSc.map some) (hR : isR.map (fun i => WS[i]?) = wr.map some) (hnR : va_nd isR = true) (hdis : ∀ i ∈ isR, i ∉ isC)
    (hB : isB.map (fun i => (wr ++ WSd)[i]?) = WS'.map some) (hnB : va_nd isB = true) (hk1 : ∀ q : Nat, q < H.size → ¬ va_A WSc H.size q → H1[q]? = H[q]?) (hP1 : tp_B D (va_A WSc H.size) WSd t) (ht : t.heap = H1) (hS1 : va_S A s.heap H1 locs1) : tp_Wd D ty tM A s H1 locs1 WS' := by
  obtain ⟨hK, hP, hD, hS, hN, hA, hZ⟩ := hw
  obtain ⟨hP1, hD1⟩ := hP1
  rw [ht] at hP1
  obtain ⟨hP', hD'⟩ := va_join hP hD isC isR hC hR hnR hdis hk1 (va_free hD hS hA isC hC) hP1 hD1
  exact ⟨hK, tp_P_map hP' hB, hD'.sub isB hnB hB, hS1, hN, hA, hZ⟩
section TPW
variable {p : Program} {l : Launch} {e : Env} {R : Room} {s : State} {m : MethodId} {args : Array Value} {below : List Frame} {meth : Method} {c : Code} {H : Heap} {locs : List Loc} {cells slots : Nat} {Q : State → Prop}
variable {pc : Nat} {ls : Array Slot} {rest st0 : List Value} {av : Array Value} {A : Nat → Prop} {mc ms : Nat} {D : va_G} {ty : List (ClassId × FieldType)} {tM : Nat} {cc : ByteArray} {WS WSc WSd wr WS' : va_W} {a : Nat}
theorem tp_calli {r : Int32} (hr : va_Run p l e R s m args below meth c H locs cells slots 0 0 (F0 m pc ls st0) rest (tp_Qi D (va_A WSc H.size) r WSd av) (va_A WSc H.size)) (hw : tp_Wd D ty tM A s H locs WS) (isC isR isB : List Nat) (hC : isC.map (fun i => WS[i]?) = WSc.map some) (hR : isR.map (fun i => WS[i]?) = wr.map some) (hnR : va_nd isR = true) (hdis : ∀ i ∈ isR, i ∉ isC)
    (hB : isB.map (fun i => (wr ++ WSd)[i]?) = WS'.map some) (hnB : va_nd isB = true) (kk : ∀ (H1 : Heap) (locs1 : List Loc), tp_Wd D ty tM A s H1 locs1 WS' → W p l e R s m args below meth c H1 locs1 cells slots Q (F0 m (pc + 3) ls (.int r :: rest))) : W p l e R s m args below meth c H locs cells slots Q (F0 m pc ls st0) := by
  have hF := va_free (wc := WSc) hw.2.2.1 hw.2.2.2.1 hw.2.2.2.2.2.1 isC hC
  refine va_calli hr hw.2.2.2.1 (fun q _ h => hF q h) hF (fun x u t H1 locs1 ht _ hp hB1 hz1 hk1 hS => ?_)
  subst hp
  exact kk H1 locs1 (tp_post hw hC hR hnR hdis hB hnB hk1 hB1 ht hS)
theorem tp_calll {r : Int64} (hr : va_Run p l e R s m args below meth c H locs cells slots 0 0 (F0 m pc ls st0) rest (tp_Ql D (va_A WSc H.size) r WSd av) (va_A WSc H.size)) (hw : tp_Wd D ty tM A s H locs WS) (isC isR isB : List Nat) (hC : isC.map (fun i => WS[i]?) = WSc.map some) (hR : isR.map (fun i => WS[i]?) = wr.map some) (hnR : va_nd isR = true) (hdis : ∀ i ∈ isR, i ∉ isC)
    (hB : isB.map (fun i => (wr ++ WSd)[i]?) = WS'.map some) (hnB : va_nd isB = true) (kk : ∀ (H1 : Heap) (locs1 : List Loc), tp_Wd D ty tM A s H1 locs1 WS' → W p l e R s m args below meth c H1 locs1 cells slots Q (F0 m (pc + 3) ls (.long r :: rest))) : W p l e R s m args below meth c H locs cells slots Q (F0 m pc ls st0) := by
  have hF := va_free (wc := WSc) hw.2.2.1 hw.2.2.2.1 hw.2.2.2.2.2.1 isC hC
  refine va_calll hr hw.2.2.2.1 (fun q _ h => hF q h) hF (fun x u t H1 locs1 ht _ hp hB1 hz1 hk1 hS => ?_)
  subst hp
  exact kk H1 locs1 (tp_post hw hC hR hnR hdis hB hnB hk1 hB1 ht hS)
theorem tp_callv (hr : va_Run p l e R s m args below meth c H locs cells slots 0 0 (F0 m pc ls st0) rest (tp_Qv (S := Unit) D (va_A WSc H.size) (fun _ => WSd) av) (va_A WSc H.size)) (hw : tp_Wd D ty tM A s H locs WS) (isC isR isB : List Nat) (hC : isC.map (fun i => WS[i]?) = WSc.map some) (hR : isR.map (fun i => WS[i]?) = wr.map some) (hnR : va_nd isR = true) (hdis : ∀ i ∈ isR, i ∉ isC)
    (hB : isB.map (fun i => (wr ++ WSd)[i]?) = WS'.map some) (hnB : va_nd isB = true) (kk : ∀ (H1 : Heap) (locs1 : List Loc), tp_Wd D ty tM A s H1 locs1 WS' → W p l e R s m args below meth c H1 locs1 cells slots Q (F0 m (pc + 3) ls rest)) : W p l e R s m args below meth c H locs cells slots Q (F0 m pc ls st0) := by
  have hF := va_free (wc := WSc) hw.2.2.1 hw.2.2.2.1 hw.2.2.2.2.2.1 isC hC
  refine va_callv hr hw.2.2.2.1 (fun q _ h => hF q h) hF (fun u t H1 locs1 ht _ hp hB1 hz1 hk1 hS => ?_)
  exact kk H1 locs1 (tp_post hw hC hR hnR hdis hB hnB hk1 hB1 ht hS)
theorem tp_calln {S : Type} {WSf : S → va_W} {WSg : S → va_W} (hr : va_Run p l e R s m args below meth c H locs cells slots mc ms (F0 m pc ls st0) rest (tp_Qv D (va_A WSc H.size) WSf av) (va_A WSc H.size)) (hw : tp_Wd D ty tM A s H locs WS) (isC isR isB : List Nat) (hC : isC.map (fun i => WS[i]?) = WSc.map some) (hR : isR.map (fun i => WS[i]?) = wr.map some) (hnR : va_nd isR = true) (hdis : ∀ i ∈ isR, i ∉ isC)
    (hB : ∀ u : S, isB.map (fun i => (wr ++ WSf u)[i]?) = (WSg u).map some) (hnB : va_nd isB = true) (kk : ∀ (u : S) (H1 : Heap) (locs1 : List Loc), tp_Wd D ty tM A s H1 locs1 (WSg u) → W p l e R s m args below meth c H1 locs1 (cells + mc) (slots + ms) Q (F0 m (pc + 3) ls rest)) : W p l e R s m args below meth c H locs cells slots Q (F0 m pc ls st0) := by
  have hF := va_free (wc := WSc) hw.2.2.1 hw.2.2.2.1 hw.2.2.2.2.2.1 isC hC
  refine va_callv hr hw.2.2.2.1 (fun q _ h => hF q h) hF (fun u t H1 locs1 ht _ hp hB1 hz1 hk1 hS => ?_)
  exact kk u H1 locs1 (tp_post hw hC hR hnR hdis (hB u) hnB hk1 hB1 ht hS)
theorem tp_iret {v : Int32} (hx : p.tables.exec = Jvm.exec) (hb : c.code = cc) (hr : meth.sig.returnType = some .int) (hlocks : meth.locks = false) (hw : tp_Wd D ty tM A s H locs WS) (hdg : decode cc pc = .ok (.ireturn, 1)) : W p l e R s m args below meth c H locs cells slots (MQ below (tp_Qi D A v WS) args s cells slots A) (F0 m pc ls [.int v]) :=
  W.iret hx hb hr (fun t ht _ => ⟨⟨v, (), rfl, rfl, And.intro (by rw [ht]; exact hw.2.1) hw.2.2.1⟩, hw.2.2.2.1.F ht⟩) hw.2.2.2.1.2.2 hdg hlocks
theorem tp_zret {v : Int32} {ty0 : FieldType} (hx : p.tables.exec = Jvm.exec) (hb : c.code = cc) (hr : meth.sig.returnType = some ty0) (hlocks : meth.locks = false) (hn : narrow ty0 (.int v) = .int v) (hw : tp_Wd D ty tM A s H locs WS) (hdg : decode cc pc = .ok (.ireturn, 1)) : W p l e R s m args below meth c H locs cells slots (MQ below (tp_Qi D A v WS) args s cells slots A) (F0 m pc ls [.int v]) :=
  W.zret hx hb hr hn (fun t ht _ => ⟨⟨v, (), rfl, rfl, And.intro (by rw [ht]; exact hw.2.1) hw.2.2.1⟩, hw.2.2.2.1.F ht⟩) hw.2.2.2.1.2.2 hdg hlocks
theorem tp_lret {v : Int64} (hx : p.tables.exec = Jvm.exec) (hb : c.code = cc) (hr : meth.sig.returnType = some .long) (hlocks : meth.locks = false) (hw : tp_Wd D ty tM A s H locs WS) (hdg : decode cc pc = .ok (.lreturn, 1)) : W p l e R s m args below meth c H locs cells slots (MQ below (tp_Ql D A v WS) args s cells slots A) (F0 m pc ls [.long v]) :=
  W.lret hx hb hr (fun t ht _ => ⟨⟨v, (), rfl, rfl, And.intro (by rw [ht]; exact hw.2.1) hw.2.2.1⟩, hw.2.2.2.1.F ht⟩) hw.2.2.2.1.2.2 hdg hlocks
theorem tp_vret {S : Type} {WSf : S → va_W} (u : S) (hx : p.tables.exec = Jvm.exec) (hb : c.code = cc) (hr : meth.sig.returnType = none) (hlocks : meth.locks = false) (hw : tp_Wd D ty tM A s H locs (WSf u)) (hdg : decode cc pc = .ok (.return_, 1)) : W p l e R s m args below meth c H locs cells slots (MQ below (tp_Qv D A WSf) args s cells slots A) (F0 m pc ls []) :=
  W.vret hx hb hr (fun t ht _ => ⟨⟨u, rfl, trivial, And.intro (by rw [ht]; exact hw.2.1) hw.2.2.1⟩, hw.2.2.2.1.F ht⟩) hw.2.2.2.1.2.2 hdg hlocks
theorem tp_get (hexec : p.tables.exec = Jvm.exec) (hb : c.code = cc) {own C : String} {T : u_T} {N ci index : Nat} {Ts : List Cond} (hts : ∀ w ∈ Ts, w.before args s = true) (hin : ∀ w ∈ u_ws C T N, w ∈ Ts) (hown : s.vm.findClass own = some m.cls) (hw : tp_Wd D ty tM A s H locs WS) (q0 : Nat) {fs : List Value} (he : WS[q0]? = some (a, .inr (ci, fs))) (hc : vwCl[ci]? = some (C, T, N)) (k : Nat) (hk : k < N) (hlink : (Cond.fieldLink own index (T k).1 (T k).2.1 (T k).2.2.1).before args s = true) {v : Value} (hv : fs[k]? = some v) (hdg : decode cc pc = .ok (.getfield index, 3))
    (kk : W p l e R s m args below meth c H locs cells slots Q (F0 m (pc + 3) ls (v :: rest))) : W p l e R s m args below meth c H locs cells slots Q (F0 m pc ls (.ref a :: rest)) :=
  va_get hexec hb hts hin hown hw.1 hw.2.1 q0 he hc k hk hlink (fun _ h => h) hv hdg kk
theorem tp_getN (hexec : p.tables.exec = Jvm.exec) (hb : c.code = cc) {own C host : String} {T : u_T} {N ci index : Nat} {Ts : List Cond} (hts : ∀ w ∈ Ts, w.before args s = true) (hin : ∀ w ∈ u_ws C T N, w ∈ Ts) (hown : s.vm.findClass own = some m.cls) (hw : tp_Wd D ty tM A s H locs WS) (q0 : Nat) {fs : List Value} (he : WS[q0]? = some (a, .inr (ci, fs))) (hc : vwCl[ci]? = some (C, T, N)) (k : Nat) (hk : k < N) (hlink : Cond.fieldLinkNest own index (T k).1 (T k).2.1 (T k).2.2.1 host ∈ tp_nw) {v : Value} (hv : fs[k]? = some v) (hdg : decode cc pc = .ok (.getfield index, 3))
    (kk : W p l e R s m args below meth c H locs cells slots Q (F0 m (pc + 3) ls (v :: rest))) : W p l e R s m args below meth c H locs cells slots Q (F0 m pc ls (.ref a :: rest)) :=
  va_getN hexec hb hts hin hown hw.1 hw.2.1 q0 he hc k hk (va_Nw.use rfl (hw.2.2.2.2.1 _ hlink)) (fun _ h => h) hv hdg kk
theorem tp_put (hexec : p.tables.exec = Jvm.exec) (hb : c.code = cc) {own C : String} {T : u_T} {N ci index : Nat} {Ts : List Cond} (hts : ∀ w ∈ Ts, w.before args s = true) (hin : ∀ w ∈ u_ws C T N, w ∈ Ts) (ty0 : Nat → FieldType) (hty : ∀ k, k < N → parseFieldDescriptor (T k).2.2.1 = some (ty0 k)) (hnm : ∀ a, a < N → ∀ b, b < N → a ≠ b → (T a).2.1 ≠ (T b).2.1) (hown : s.vm.findClass own = some m.cls) (hw : tp_Wd D ty tM A s H locs WS) (q0 : Nat) {fs : List Value} (he : WS[q0]? = some (a, .inr (ci, fs))) (hc : vwCl[ci]? = some (C, T, N)) (k : Nat) (hk : k < N) (hlink : (Cond.fieldLink own index (T k).1 (T k).2.1 (T k).2.2.1).before args s = true) (hfin : (T k).2.2.2 = false) {v : Value} (hn : narrow (ty0 k) v = v) (hfit : fits (ty0 k) v = true) (hl : k < fs.length)
    (hset : WS.set q0 (a, .inr (ci, fs.set k v)) = WS') (hdg : decode cc pc = .ok (.putfield index, 3)) (kk : ∀ (H1 : Heap) (locs1 : List Loc), tp_Wd D ty tM A s H1 locs1 WS' → W p l e R s m args below meth c H1 locs1 cells slots Q (F0 m (pc + 3) ls rest)) : W p l e R s m args below meth c H locs cells slots Q (F0 m pc ls (v :: .ref a :: rest)) := by
  obtain ⟨hK, hP, hD, hS, hN, hA, hZ⟩ := hw
  subst hset
  exact va_put hexec hb hts hin ty0 hty hnm hown hK hP hD hS q0 he hc k hk hlink (fun _ h => h) hfin (hty k hk) hn hfit hl hdg (fun H1 locs1 hP hD hS => kk H1 locs1 ⟨hK, hP, hD, hS, hN, hA, hZ⟩)
theorem tp_putN (hexec : p.tables.exec = Jvm.exec) (hb : c.code = cc) {own C host : String} {T : u_T} {N ci index : Nat} {Ts : List Cond} (hts : ∀ w ∈ Ts, w.before args s = true) (hin : ∀ w ∈ u_ws C T N, w ∈ Ts) (ty0 : Nat → FieldType) (hty : ∀ k, k < N → parseFieldDescriptor (T k).2.2.1 = some (ty0 k)) (hnm : ∀ a, a < N → ∀ b, b < N → a ≠ b → (T a).2.1 ≠ (T b).2.1) (hown : s.vm.findClass own = some m.cls) (hw : tp_Wd D ty tM A s H locs WS) (q0 : Nat) {fs : List Value} (he : WS[q0]? = some (a, .inr (ci, fs))) (hc : vwCl[ci]? = some (C, T, N)) (k : Nat) (hk : k < N) (hlink : Cond.fieldLinkNest own index (T k).1 (T k).2.1 (T k).2.2.1 host ∈ tp_nw) (hfin : (T k).2.2.2 = false) {v : Value} (hn : narrow (ty0 k) v = v) (hfit : fits (ty0 k) v = true) (hl : k < fs.length)
    (hset : WS.set q0 (a, .inr (ci, fs.set k v)) = WS') (hdg : decode cc pc = .ok (.putfield index, 3)) (kk : ∀ (H1 : Heap) (locs1 : List Loc), tp_Wd D ty tM A s H1 locs1 WS' → W p l e R s m args below meth c H1 locs1 cells slots Q (F0 m (pc + 3) ls rest)) : W p l e R s m args below meth c H locs cells slots Q (F0 m pc ls (v :: .ref a :: rest)) := by
  obtain ⟨hK, hP, hD, hS, hN, hA, hZ⟩ := hw
  subst hset
  exact va_putN hexec hb hts hin ty0 hty hnm hown hK hP hD hS q0 he hc k hk (va_Nw.use rfl (hN _ hlink)) (fun _ h => h) hfin (hty k hk) hn hfit hl hdg (fun H1 locs1 hP hD hS => kk H1 locs1 ⟨hK, hP, hD, hS, hN, hA, hZ⟩)
theorem tp_putF (hexec : p.tables.exec = Jvm.exec) (hb : c.code = cc) {own C : String} {T : u_T} {N ci index : Nat} {Ts : List Cond} (hts : ∀ w ∈ Ts, w.before args s = true) (hin : ∀ w ∈ u_ws C T N, w ∈ Ts) (ty0 : Nat → FieldType) (hty : ∀ k, k < N → parseFieldDescriptor (T k).2.2.1 = some (ty0 k)) (hnm : ∀ a, a < N → ∀ b, b < N → a ≠ b → (T a).2.1 ≠ (T b).2.1) (hown : s.vm.findClass own = some m.cls) (hw : tp_Wd D ty tM A s H locs WS) (q0 : Nat) {fs : List Value} (he : WS[q0]? = some (a, .inr (ci, fs))) (hc : vwCl[ci]? = some (C, T, N)) (k : Nat) (hk : k < N) (hlink : (Cond.fieldLink own index (T k).1 (T k).2.1 (T k).2.2.1).before args s = true) (hfin : (T k).2.2.2 = true) (hin2 : meth.name = "<init>") (hdecl : (T k).1 = own) {v : Value} (hn : narrow (ty0 k) v = v) (hfit : fits (ty0 k) v = true) (hl : k < fs.length)
    (hset : WS.set q0 (a, .inr (ci, fs.set k v)) = WS') (hdg : decode cc pc = .ok (.putfield index, 3)) (kk : ∀ (H1 : Heap) (locs1 : List Loc), tp_Wd D ty tM A s H1 locs1 WS' → W p l e R s m args below meth c H1 locs1 cells slots Q (F0 m (pc + 3) ls rest)) : W p l e R s m args below meth c H locs cells slots Q (F0 m pc ls (v :: .ref a :: rest)) := by
  obtain ⟨hK, hP, hD, hS, hN, hA, hZ⟩ := hw
  subst hset
  exact va_putF hexec hb hts hin ty0 hty hnm hown hK hP hD hS q0 he hc k hk hlink (fun _ h => h) hfin hin2 hdecl (hty k hk) hn hfit hl hdg (fun H1 locs1 hP hD hS => kk H1 locs1 ⟨hK, hP, hD, hS, hN, hA, hZ⟩)
theorem tp_iald (hexec : p.tables.exec = Jvm.exec) (hb : c.code = cc) (hw : tp_Wd D ty tM A s H locs WS) (q0 t0 : Nat) {cA : ClassId} {n : Nat} {f : Nat → Int32} (ha : WS[q0]? = some (a, .inl (cA, n, .inl f))) (ht : ty[t0]? = some (cA, .int)) {i : Int32} (hin : tp_inb i n = true) (hdg : decode cc pc = .ok (.iaload, 1))
    (kk : W p l e R s m args below meth c H locs cells slots Q (F0 m (pc + 1) ls (.int (f i.toNatClampNeg) :: rest))) : W p l e R s m args below meth c H locs cells slots Q (F0 m pc ls (.int i :: .ref a :: rest)) :=
  va_iald hexec hb hw.1 hw.2.1 q0 t0 ha ht (tp_inb_v hin) hdg kk
theorem tp_bald (hexec : p.tables.exec = Jvm.exec) (hb : c.code = cc) (hw : tp_Wd D ty tM A s H locs WS) (q0 t0 : Nat) {cA : ClassId} {n : Nat} {f : Nat → Int32} (ha : WS[q0]? = some (a, .inl (cA, n, .inl f))) (ht : ty[t0]? = some (cA, .byte)) {i : Int32} (hin : tp_inb i n = true) (hdg : decode cc pc = .ok (.baload, 1))
    (kk : W p l e R s m args below meth c H locs cells slots Q (F0 m (pc + 1) ls (.int (f i.toNatClampNeg) :: rest))) : W p l e R s m args below meth c H locs cells slots Q (F0 m pc ls (.int i :: .ref a :: rest)) :=
  va_bald hexec hb hw.1 hw.2.1 q0 t0 ha ht (tp_inb_v hin) hdg kk
theorem tp_iast (hexec : p.tables.exec = Jvm.exec) (hb : c.code = cc) (hw : tp_Wd D ty tM A s H locs WS) (q0 t0 : Nat) {cA : ClassId} {n : Nat} {f : Nat → Int32} (ha : WS[q0]? = some (a, .inl (cA, n, .inl f))) (ht : ty[t0]? = some (cA, .int)) {i x : Int32} (hin : tp_inb i n = true) (hset : WS.set q0 (a, .inl (cA, n, .inl (upd f i.toNatClampNeg x))) = WS') (hdg : decode cc pc = .ok (.iastore, 1))
    (kk : ∀ (H1 : Heap) (locs1 : List Loc), tp_Wd D ty tM A s H1 locs1 WS' → W p l e R s m args below meth c H1 locs1 cells slots Q (F0 m (pc + 1) ls rest)) : W p l e R s m args below meth c H locs cells slots Q (F0 m pc ls (.int x :: .int i :: .ref a :: rest)) := by
  obtain ⟨hK, hP, hD, hS, hN, hA, hZ⟩ := hw
  subst hset
  exact va_iast hexec hb hK hP hD hS q0 t0 ha ht (tp_inb_v hin) hdg (fun H1 locs1 hP hD hS => kk H1 locs1 ⟨hK, hP, hD, hS, hN, hA, hZ⟩)
theorem tp_bast (hexec : p.tables.exec = Jvm.exec) (hb : c.code = cc) (hw : tp_Wd D ty tM A s H locs WS) (q0 t0 : Nat) {cA : ClassId} {n : Nat} {f : Nat → Int32} (ha : WS[q0]? = some (a, .inl (cA, n, .inl f))) (ht : ty[t0]? = some (cA, .byte)) {i x : Int32} (hin : tp_inb i n = true) (hset : WS.set q0 (a, .inl (cA, n, .inl (upd f i.toNatClampNeg (vp_nar .byte x)))) = WS') (hdg : decode cc pc = .ok (.bastore, 1))
    (kk : ∀ (H1 : Heap) (locs1 : List Loc), tp_Wd D ty tM A s H1 locs1 WS' → W p l e R s m args below meth c H1 locs1 cells slots Q (F0 m (pc + 1) ls rest)) : W p l e R s m args below meth c H locs cells slots Q (F0 m pc ls (.int x :: .int i :: .ref a :: rest)) := by
  obtain ⟨hK, hP, hD, hS, hN, hA, hZ⟩ := hw
  subst hset
  exact va_bast hexec hb hK hP hD hS q0 t0 ha ht (tp_inb_v hin) hdg (fun H1 locs1 hP hD hS => kk H1 locs1 ⟨hK, hP, hD, hS, hN, hA, hZ⟩)
theorem tp_alen (hexec : p.tables.exec = Jvm.exec) (hb : c.code = cc) (hw : tp_Wd D ty tM A s H locs WS) (q0 t0 : Nat) {cA : ClassId} {x : vp_A} (ha : WS[q0]? = some (a, .inl (cA, x))) {ty0 : FieldType} (ht : ty[t0]? = some (cA, ty0)) {v : Int32} (hv : Int32.ofNat x.1 = v) (hdg : decode cc pc = .ok (.arraylength, 1))
    (kk : W p l e R s m args below meth c H locs cells slots Q (F0 m (pc + 1) ls (.int v :: rest))) : W p l e R s m args below meth c H locs cells slots Q (F0 m pc ls (.ref a :: rest)) :=
  va_alen hexec hb hw.1 hw.2.1 q0 t0 ha ht hv hdg kk
theorem tp_topi {x y : Int32} (h : y = x) (k : W p l e R s m args below meth c H locs cells slots Q (F0 m pc ls (.int y :: rest))) : W p l e R s m args below meth c H locs cells slots Q (F0 m pc ls (.int x :: rest)) := h ▸ k
theorem tp_topl {x y : Int64} (h : y = x) (k : W p l e R s m args below meth c H locs cells slots Q (F0 m pc ls (.long y :: rest))) : W p l e R s m args below meth c H locs cells slots Q (F0 m pc ls (.long x :: rest)) := h ▸ k
theorem tp_new {own C : String} {T : u_T} {N ci index : Nat} {Ts : List Cond} (hexec : p.tables.exec = Jvm.exec) (hb : c.code = cc) (hts : ∀ w ∈ Ts, w.before args s = true) (hin : ∀ w ∈ u_ws C T N, w ∈ Ts) (ty0 : Nat → FieldType) (hty : ∀ k, k < N → parseFieldDescriptor (T k).2.2.1 = some (ty0 k)) (hown : s.vm.findClass own = some m.cls) (hcl : (Cond.classLink own index C).before args s = true) (hinst : (Cond.instantiable C N).before args s = true) (hini : (Cond.initialized C).before args s = true)
    (hw : tp_Wd D ty tM A s H locs WS) (hc : vwCl[ci]? = some (C, T, N)) {fs : List Value} (hfs : ∀ j, j < N → defaultValue (ty0 j) = vp_V fs j) (hcells : cells + 1 ≤ R.cells) (hslots : slots + N ≤ R.slots) (hdg : decode cc pc = .ok (.new index, 3))
    (kk : ∀ (q : Nat) (H1 : Heap), tp_Wd D ty tM A s H1 locs (WS ++ [(q, .inr (ci, fs))]) → W p l e R s m args below meth c H1 locs (cells + 1) (slots + N) Q (F0 m (pc + 3) ls (.ref q :: rest))) : W p l e R s m args below meth c H locs cells slots Q (F0 m pc ls rest) := by
  obtain ⟨hK, hP, hD, hS, hN, hA, hZ⟩ := hw
  exact va_new hexec hb hts hin ty0 hty hown hcl hinst hini hK hP hD hS hA hc hfs hcells hslots hdg (fun q H1 hP hD hS => kk q H1 ⟨hK, hP, hD, hS, hN, hA, hZ⟩)
theorem tp_newaB {cB cI : ClassId} {atype : ArrayType} (hexec : p.tables.exec = Jvm.exec) (hb : c.code = cc) (harr : (Cond.arrayClass .byte).before args s = true) (hw : tp_Wd D (tp_ty cB cI) tM A s H locs WS) {n : Int32} {N' : Nat} (hn : ¬ n < 0) (hN : n.toNatClampNeg = N') (hbytes : N' * componentBytes .byte ≤ 536870912) (hcells : cells + 1 ≤ R.cells) (hslots : slots + N' ≤ R.slots) (hdg : decode cc pc = .ok (.newarray atype, 2)) (hat : newarray.typeOf atype = .byte)
    (kk : ∀ (q : Nat) (H1 : Heap), tp_Wd D (tp_ty cB cI) tM A s H1 locs (WS ++ [(q, .inl (cB, N', .inl (fun _ => 0)))]) → W p l e R s m args below meth c H1 locs (cells + 1) (slots + N') Q (F0 m (pc + 2) ls (.ref q :: rest))) : W p l e R s m args below meth c H locs cells slots Q (F0 m pc ls (.int n :: rest)) := by
  obtain ⟨hK, hP, hD, hS, hN', hA, hZ⟩ := hw
  refine va_newa (a0 := (N', .inl (fun _ => 0))) hexec hb (by rw [hat]; exact harr) hat hK hP hD hS hA (fun _ => rfl) hn hN hbytes hcells hslots hdg (fun q cA H1 hK2 hP hD hS => ?_)
  have h1 := (hK2.2 2 (cA, .byte) rfl).2
  have h2 := (hK.2 0 (cB, .byte) rfl).2
  have e : cA = cB := Option.some.inj (h1.symm.trans h2)
  subst e
  exact kk q H1 ⟨hK, hP, hD, hS, hN', hA, hZ⟩
theorem tp_newaI {cB cI : ClassId} {atype : ArrayType} (hexec : p.tables.exec = Jvm.exec) (hb : c.code = cc) (harr : (Cond.arrayClass .int).before args s = true) (hw : tp_Wd D (tp_ty cB cI) tM A s H locs WS) {n : Int32} {N' : Nat} (hn : ¬ n < 0) (hN : n.toNatClampNeg = N') (hbytes : N' * componentBytes .int ≤ 536870912) (hcells : cells + 1 ≤ R.cells) (hslots : slots + N' ≤ R.slots) (hdg : decode cc pc = .ok (.newarray atype, 2)) (hat : newarray.typeOf atype = .int)
    (kk : ∀ (q : Nat) (H1 : Heap), tp_Wd D (tp_ty cB cI) tM A s H1 locs (WS ++ [(q, .inl (cI, N', .inl (fun _ => 0)))]) → W p l e R s m args below meth c H1 locs (cells + 1) (slots + N') Q (F0 m (pc + 2) ls (.ref q :: rest))) : W p l e R s m args below meth c H locs cells slots Q (F0 m pc ls (.int n :: rest)) := by
  obtain ⟨hK, hP, hD, hS, hN', hA, hZ⟩ := hw
  refine va_newa (a0 := (N', .inl (fun _ => 0))) hexec hb (by rw [hat]; exact harr) hat hK hP hD hS hA (fun _ => rfl) hn hN hbytes hcells hslots hdg (fun q cA H1 hK2 hP hD hS => ?_)
  have h1 := (hK2.2 2 (cA, .int) rfl).2
  have h2 := (hK.2 1 (cI, .int) rfl).2
  have e : cA = cI := Option.some.inj (h1.symm.trans h2)
  subst e
  exact kk q H1 ⟨hK, hP, hD, hS, hN', hA, hZ⟩
theorem tp_copy (hexec : p.tables.exec = Jvm.exec) (hb : c.code = cc) (hml : c.maxLocals = ls.size) {own : String} {index : Nat} (hown : s.vm.findClass own = some m.cls) (hlink : (Cond.methodLink own index arraycopyName).before args s = true) (hnat : (Cond.native arraycopyName).before args s = true) (hstat : (Cond.static arraycopyName).before args s = true) (hini : (Cond.initialized "java/lang/System").before args s = true)
    (hw : tp_Wd D ty tM A s H locs WS) (q0 q1 t0 t1 : Nat) {a0 : Nat} {c0 c1 : ClassId} {n0 n1 : Nat} {f g : Nat → Int32} {ty0 : FieldType} (ha0 : WS[q0]? = some (a0, .inl (c0, n0, .inl f))) (ha1 : WS[q1]? = some (a, .inl (c1, n1, .inl g))) (ht0 : ty[t0]? = some (c0, ty0)) (ht1 : ty[t1]? = some (c1, ty0)) (hprim : refKind ty0 = false)
    {sp dp n : Int32} (hok : tp_cpok sp dp n n0 n1 = true) (hfit : ∀ i, i < n.toNatClampNeg → fits ty0 (.int (f (sp.toNatClampNeg + i))) = true)
    (hframes : 1 ≤ R.frames) (hlocals : (rest.map fun v => v.category).sum + (nativeFrameWords "java/lang/System" "arraycopy" 5 + 11) ≤ R.locals) (hset : WS.set q1 (a, .inl (c1, n1, .inl (va_cpy f g sp.toNatClampNeg dp.toNatClampNeg n.toNatClampNeg))) = WS') (hdg : decode cc pc = .ok (.invokestatic index, 3))
    (kk : ∀ (H1 : Heap) (locs1 : List Loc), tp_Wd D ty tM A s H1 locs1 WS' → W p l e R s m args below meth c H1 locs1 cells slots Q (F0 m (pc + 3) ls rest)) : W p l e R s m args below meth c H locs cells slots Q (F0 m pc ls (.int n :: .int dp :: .ref a :: .int sp :: .ref a0 :: rest)) := by
  obtain ⟨hK, hP, hD, hS, hN, hA, hZ⟩ := hw
  obtain ⟨h1, h2, h3, h4, h5⟩ := of_decide_eq_true hok
  subst hset
  exact va_copyi hexec hb hml hown hlink hnat hstat hini hK hP hD hS q0 q1 t0 t1 ha0 ha1 ht0 ht1 hprim h1 h2 h3 h4 h5 hfit hframes hlocals hdg (fun H1 locs1 hP hD hS => kk H1 locs1 ⟨hK, hP, hD, hS, hN, hA, hZ⟩)
end TPW
