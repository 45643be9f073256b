/-! The steps that a method's pure model is made of: a model answers some result, or none where the method would throw or not end in the steps given. -/
def tp_inb (i : Int32) (n : Nat) : Bool := decide (¬ (i < 0 ∨ n ≤ i.toNatClampNeg))
def tp_ushr (x y : Int32) : Int32 := (x.toUInt32 >>> (y.toUInt32 &&& Int32.toUInt32 31)).toInt32
def tp_lushr (x : Int64) (y : Int32) : Int64 := (x.toUInt64 >>> (y.toInt64.toUInt64 &&& Int64.toUInt64 63)).toInt64
def tp_cpok (sp dp n : Int32) (n0 n1 : Nat) : Bool := decide (¬ sp < 0 ∧ ¬ dp < 0 ∧ ¬ n < 0 ∧ sp.toNatClampNeg + n.toNatClampNeg ≤ n0 ∧ dp.toNatClampNeg + n.toNatClampNeg ≤ n1)
def tp_fitsB (f : Nat → Int32) : Prop := ∀ j, fits .byte (.int (f j)) = true
noncomputable def tp_gdp {α : Type} (P : Prop) (k : Option α) : Option α := @ite _ P (Classical.propDecidable P) k none
theorem tp_gdp_e {α : Type} {P : Prop} {k : Option α} {r : α} (h : tp_gdp P k = some r) : P ∧ k = some r := by
  by_cases hp : P
  · exact ⟨hp, by rw [tp_gdp, if_pos hp] at h; exact h⟩
  · exact absurd h (by rw [tp_gdp, if_neg hp]; simp)
theorem tp_narZ {v : Int32} (h : vp_nar .boolean v = v) : narrow .boolean (.int v) = .int v := by
  have e : narrow .boolean (.int v) = .int (vp_nar .boolean v) := rfl
  rw [e, h]
abbrev tp_ty (cB cI : ClassId) : List (ClassId × FieldType) := [(cB, .byte), (cI, .int)]
def tp_gd {α : Type} (b : Bool) (k : Option α) : Option α := if b = true then k else none
theorem tp_gd_e {α : Type} {b : Bool} {k : Option α} {r : α} (h : tp_gd b k = some r) : b = true ∧ k = some r := by
  cases b with
  | false => exact absurd h (by simp [tp_gd])
  | true => exact ⟨rfl, h⟩
theorem tp_it {c : Prop} [Decidable c] {α : Type} {A B : Option α} {r : Option α} (hc : c) (h : (if c then A else B) = r) : A = r := by rw [if_pos hc] at h; exact h
theorem tp_if {c : Prop} [Decidable c] {α : Type} {A B : Option α} {r : Option α} (hc : ¬ c) (h : (if c then A else B) = r) : B = r := by rw [if_neg hc] at h; exact h
def tp_b0 {α γ : Type} (a : α) (k : α → Option γ) : Option γ := k a
theorem tp_b0_e {α γ : Type} {a : α} {k : α → Option γ} {r : γ} (h : tp_b0 a k = some r) : ∃ x, x = a ∧ k x = some r := ⟨a, rfl, h⟩
def tp_b1 {α1 γ : Type} (x : Option (α1)) (k : α1 → Option γ) : Option γ := x.bind fun q => k q
theorem tp_b1_e {α1 γ : Type} {x : Option (α1)} {k : α1 → Option γ} {r : γ} (h : tp_b1 x k = some r) : ∃ a1, x = some (a1) ∧ k a1 = some r := by
  cases x with
  | none => exact absurd h (by simp [tp_b1])
  | some q => exact ⟨q, rfl, h⟩
theorem tp_b1_s {α1 γ : Type} {k : α1 → Option γ} {a1 : α1} : tp_b1 (some (a1)) k = k a1 := rfl
def tp_b2 {α1 α2 γ : Type} (x : Option (α1 × α2)) (k : α1 → α2 → Option γ) : Option γ := x.bind fun q => k q.1 q.2
theorem tp_b2_e {α1 α2 γ : Type} {x : Option (α1 × α2)} {k : α1 → α2 → Option γ} {r : γ} (h : tp_b2 x k = some r) : ∃ a1 a2, x = some (a1, a2) ∧ k a1 a2 = some r := by
  cases x with
  | none => exact absurd h (by simp [tp_b2])
  | some q => exact ⟨q.1, q.2, rfl, h⟩
theorem tp_b2_s {α1 α2 γ : Type} {k : α1 → α2 → Option γ} {a1 : α1} {a2 : α2} : tp_b2 (some (a1, a2)) k = k a1 a2 := rfl
def tp_b3 {α1 α2 α3 γ : Type} (x : Option (α1 × α2 × α3)) (k : α1 → α2 → α3 → Option γ) : Option γ := x.bind fun q => k q.1 q.2.1 q.2.2
theorem tp_b3_e {α1 α2 α3 γ : Type} {x : Option (α1 × α2 × α3)} {k : α1 → α2 → α3 → Option γ} {r : γ} (h : tp_b3 x k = some r) : ∃ a1 a2 a3, x = some (a1, a2, a3) ∧ k a1 a2 a3 = some r := by
  cases x with
  | none => exact absurd h (by simp [tp_b3])
  | some q => exact ⟨q.1, q.2.1, q.2.2, rfl, h⟩
theorem tp_b3_s {α1 α2 α3 γ : Type} {k : α1 → α2 → α3 → Option γ} {a1 : α1} {a2 : α2} {a3 : α3} : tp_b3 (some (a1, a2, a3)) k = k a1 a2 a3 := rfl
def tp_b4 {α1 α2 α3 α4 γ : Type} (x : Option (α1 × α2 × α3 × α4)) (k : α1 → α2 → α3 → α4 → Option γ) : Option γ := x.bind fun q => k q.1 q.2.1 q.2.2.1 q.2.2.2
theorem tp_b4_e {α1 α2 α3 α4 γ : Type} {x : Option (α1 × α2 × α3 × α4)} {k : α1 → α2 → α3 → α4 → Option γ} {r : γ} (h : tp_b4 x k = some r) : ∃ a1 a2 a3 a4, x = some (a1, a2, a3, a4) ∧ k a1 a2 a3 a4 = some r := by
  cases x with
  | none => exact absurd h (by simp [tp_b4])
  | some q => exact ⟨q.1, q.2.1, q.2.2.1, q.2.2.2, rfl, h⟩
theorem tp_b4_s {α1 α2 α3 α4 γ : Type} {k : α1 → α2 → α3 → α4 → Option γ} {a1 : α1} {a2 : α2} {a3 : α3} {a4 : α4} : tp_b4 (some (a1, a2, a3, a4)) k = k a1 a2 a3 a4 := rfl
def tp_b5 {α1 α2 α3 α4 α5 γ : Type} (x : Option (α1 × α2 × α3 × α4 × α5)) (k : α1 → α2 → α3 → α4 → α5 → Option γ) : Option γ := x.bind fun q => k q.1 q.2.1 q.2.2.1 q.2.2.2.1 q.2.2.2.2
theorem tp_b5_e {α1 α2 α3 α4 α5 γ : Type} {x : Option (α1 × α2 × α3 × α4 × α5)} {k : α1 → α2 → α3 → α4 → α5 → Option γ} {r : γ} (h : tp_b5 x k = some r) : ∃ a1 a2 a3 a4 a5, x = some (a1, a2, a3, a4, a5) ∧ k a1 a2 a3 a4 a5 = some r := by
  cases x with
  | none => exact absurd h (by simp [tp_b5])
  | some q => exact ⟨q.1, q.2.1, q.2.2.1, q.2.2.2.1, q.2.2.2.2, rfl, h⟩
theorem tp_b5_s {α1 α2 α3 α4 α5 γ : Type} {k : α1 → α2 → α3 → α4 → α5 → Option γ} {a1 : α1} {a2 : α2} {a3 : α3} {a4 : α4} {a5 : α5} : tp_b5 (some (a1, a2, a3, a4, a5)) k = k a1 a2 a3 a4 a5 := rfl
def tp_b6 {α1 α2 α3 α4 α5 α6 γ : Type} (x : Option (α1 × α2 × α3 × α4 × α5 × α6)) (k : α1 → α2 → α3 → α4 → α5 → α6 → Option γ) : Option γ := x.bind fun q => k q.1 q.2.1 q.2.2.1 q.2.2.2.1 q.2.2.2.2.1 q.2.2.2.2.2
theorem tp_b6_e {α1 α2 α3 α4 α5 α6 γ : Type} {x : Option (α1 × α2 × α3 × α4 × α5 × α6)} {k : α1 → α2 → α3 → α4 → α5 → α6 → Option γ} {r : γ} (h : tp_b6 x k = some r) : ∃ a1 a2 a3 a4 a5 a6, x = some (a1, a2, a3, a4, a5, a6) ∧ k a1 a2 a3 a4 a5 a6 = some r := by
  cases x with
  | none => exact absurd h (by simp [tp_b6])
  | some q => exact ⟨q.1, q.2.1, q.2.2.1, q.2.2.2.1, q.2.2.2.2.1, q.2.2.2.2.2, rfl, h⟩
theorem tp_b6_s {α1 α2 α3 α4 α5 α6 γ : Type} {k : α1 → α2 → α3 → α4 → α5 → α6 → Option γ} {a1 : α1} {a2 : α2} {a3 : α3} {a4 : α4} {a5 : α5} {a6 : α6} : tp_b6 (some (a1, a2, a3, a4, a5, a6)) k = k a1 a2 a3 a4 a5 a6 := rfl
def tp_b7 {α1 α2 α3 α4 α5 α6 α7 γ : Type} (x : Option (α1 × α2 × α3 × α4 × α5 × α6 × α7)) (k : α1 → α2 → α3 → α4 → α5 → α6 → α7 → Option γ) : Option γ := x.bind fun q => k q.1 q.2.1 q.2.2.1 q.2.2.2.1 q.2.2.2.2.1 q.2.2.2.2.2.1 q.2.2.2.2.2.2
theorem tp_b7_e {α1 α2 α3 α4 α5 α6 α7 γ : Type} {x : Option (α1 × α2 × α3 × α4 × α5 × α6 × α7)} {k : α1 → α2 → α3 → α4 → α5 → α6 → α7 → Option γ} {r : γ} (h : tp_b7 x k = some r) : ∃ a1 a2 a3 a4 a5 a6 a7, x = some (a1, a2, a3, a4, a5, a6, a7) ∧ k a1 a2 a3 a4 a5 a6 a7 = some r := by
  cases x with
  | none => exact absurd h (by simp [tp_b7])
  | some q => exact ⟨q.1, q.2.1, q.2.2.1, q.2.2.2.1, q.2.2.2.2.1, q.2.2.2.2.2.1, q.2.2.2.2.2.2, rfl, h⟩
theorem tp_b7_s {α1 α2 α3 α4 α5 α6 α7 γ : Type} {k : α1 → α2 → α3 → α4 → α5 → α6 → α7 → Option γ} {a1 : α1} {a2 : α2} {a3 : α3} {a4 : α4} {a5 : α5} {a6 : α6} {a7 : α7} : tp_b7 (some (a1, a2, a3, a4, a5, a6, a7)) k = k a1 a2 a3 a4 a5 a6 a7 := rfl
def tp_b8 {α1 α2 α3 α4 α5 α6 α7 α8 γ : Type} (x : Option (α1 × α2 × α3 × α4 × α5 × α6 × α7 × α8)) (k : α1 → α2 → α3 → α4 → α5 → α6 → α7 → α8 → Option γ) : Option γ := x.bind fun q => k q.1 q.2.1 q.2.2.1 q.2.2.2.1 q.2.2.2.2.1 q.2.2.2.2.2.1 q.2.2.2.2.2.2.1 q.2.2.2.2.2.2.2
theorem tp_b8_e {α1 α2 α3 α4 α5 α6 α7 α8 γ : Type} {x : Option (α1 × α2 × α3 × α4 × α5 × α6 × α7 × α8)} {k : α1 → α2 → α3 → α4 → α5 → α6 → α7 → α8 → Option γ} {r : γ} (h : tp_b8 x k = some r) : ∃ a1 a2 a3 a4 a5 a6 a7 a8, x = some (a1, a2, a3, a4, a5, a6, a7, a8) ∧ k a1 a2 a3 a4 a5 a6 a7 a8 = some r := by
  cases x with
  | none => exact absurd h (by simp [tp_b8])
  | some q => exact ⟨q.1, q.2.1, q.2.2.1, q.2.2.2.1, q.2.2.2.2.1, q.2.2.2.2.2.1, q.2.2.2.2.2.2.1, q.2.2.2.2.2.2.2, rfl, h⟩
theorem tp_b8_s {α1 α2 α3 α4 α5 α6 α7 α8 γ : Type} {k : α1 → α2 → α3 → α4 → α5 → α6 → α7 → α8 → Option γ} {a1 : α1} {a2 : α2} {a3 : α3} {a4 : α4} {a5 : α5} {a6 : α6} {a7 : α7} {a8 : α8} : tp_b8 (some (a1, a2, a3, a4, a5, a6, a7, a8)) k = k a1 a2 a3 a4 a5 a6 a7 a8 := rfl
def tp_b9 {α1 α2 α3 α4 α5 α6 α7 α8 α9 γ : Type} (x : Option (α1 × α2 × α3 × α4 × α5 × α6 × α7 × α8 × α9)) (k : α1 → α2 → α3 → α4 → α5 → α6 → α7 → α8 → α9 → Option γ) : Option γ := x.bind fun q => k q.1 q.2.1 q.2.2.1 q.2.2.2.1 q.2.2.2.2.1 q.2.2.2.2.2.1 q.2.2.2.2.2.2.1 q.2.2.2.2.2.2.2.1 q.2.2.2.2.2.2.2.2
theorem tp_b9_e {α1 α2 α3 α4 α5 α6 α7 α8 α9 γ : Type} {x : Option (α1 × α2 × α3 × α4 × α5 × α6 × α7 × α8 × α9)} {k : α1 → α2 → α3 → α4 → α5 → α6 → α7 → α8 → α9 → Option γ} {r : γ} (h : tp_b9 x k = some r) : ∃ a1 a2 a3 a4 a5 a6 a7 a8 a9, x = some (a1, a2, a3, a4, a5, a6, a7, a8, a9) ∧ k a1 a2 a3 a4 a5 a6 a7 a8 a9 = some r := by
  cases x with
  | none => exact absurd h (by simp [tp_b9])
  | some q => exact ⟨q.1, q.2.1, q.2.2.1, q.2.2.2.1, q.2.2.2.2.1, q.2.2.2.2.2.1, q.2.2.2.2.2.2.1, q.2.2.2.2.2.2.2.1, q.2.2.2.2.2.2.2.2, rfl, h⟩
theorem tp_b9_s {α1 α2 α3 α4 α5 α6 α7 α8 α9 γ : Type} {k : α1 → α2 → α3 → α4 → α5 → α6 → α7 → α8 → α9 → Option γ} {a1 : α1} {a2 : α2} {a3 : α3} {a4 : α4} {a5 : α5} {a6 : α6} {a7 : α7} {a8 : α8} {a9 : α9} : tp_b9 (some (a1, a2, a3, a4, a5, a6, a7, a8, a9)) k = k a1 a2 a3 a4 a5 a6 a7 a8 a9 := rfl
def tp_b10 {α1 α2 α3 α4 α5 α6 α7 α8 α9 α10 γ : Type} (x : Option (α1 × α2 × α3 × α4 × α5 × α6 × α7 × α8 × α9 × α10)) (k : α1 → α2 → α3 → α4 → α5 → α6 → α7 → α8 → α9 → α10 → Option γ) : Option γ := x.bind fun q => k q.1 q.2.1 q.2.2.1 q.2.2.2.1 q.2.2.2.2.1 q.2.2.2.2.2.1 q.2.2.2.2.2.2.1 q.2.2.2.2.2.2.2.1 q.2.2.2.2.2.2.2.2.1 q.2.2.2.2.2.2.2.2.2
theorem tp_b10_e {α1 α2 α3 α4 α5 α6 α7 α8 α9 α10 γ : Type} {x : Option (α1 × α2 × α3 × α4 × α5 × α6 × α7 × α8 × α9 × α10)} {k : α1 → α2 → α3 → α4 → α5 → α6 → α7 → α8 → α9 → α10 → Option γ} {r : γ} (h : tp_b10 x k = some r) : ∃ a1 a2 a3 a4 a5 a6 a7 a8 a9 a10, x = some (a1, a2, a3, a4, a5, a6, a7, a8, a9, a10) ∧ k a1 a2 a3 a4 a5 a6 a7 a8 a9 a10 = some r := by
  cases x with
  | none => exact absurd h (by simp [tp_b10])
  | some q => exact ⟨q.1, q.2.1, q.2.2.1, q.2.2.2.1, q.2.2.2.2.1, q.2.2.2.2.2.1, q.2.2.2.2.2.2.1, q.2.2.2.2.2.2.2.1, q.2.2.2.2.2.2.2.2.1, q.2.2.2.2.2.2.2.2.2, rfl, h⟩
theorem tp_b10_s {α1 α2 α3 α4 α5 α6 α7 α8 α9 α10 γ : Type} {k : α1 → α2 → α3 → α4 → α5 → α6 → α7 → α8 → α9 → α10 → Option γ} {a1 : α1} {a2 : α2} {a3 : α3} {a4 : α4} {a5 : α5} {a6 : α6} {a7 : α7} {a8 : α8} {a9 : α9} {a10 : α10} : tp_b10 (some (a1, a2, a3, a4, a5, a6, a7, a8, a9, a10)) k = k a1 a2 a3 a4 a5 a6 a7 a8 a9 a10 := rfl
def tp_b11 {α1 α2 α3 α4 α5 α6 α7 α8 α9 α10 α11 γ : Type} (x : Option (α1 × α2 × α3 × α4 × α5 × α6 × α7 × α8 × α9 × α10 × α11)) (k : α1 → α2 → α3 → α4 → α5 → α6 → α7 → α8 → α9 → α10 → α11 → Option γ) : Option γ := x.bind fun q => k q.1 q.2.1 q.2.2.1 q.2.2.2.1 q.2.2.2.2.1 q.2.2.2.2.2.1 q.2.2.2.2.2.2.1 q.2.2.2.2.2.2.2.1 q.2.2.2.2.2.2.2.2.1 q.2.2.2.2.2.2.2.2.2.1 q.2.2.2.2.2.2.2.2.2.2
theorem tp_b11_e {α1 α2 α3 α4 α5 α6 α7 α8 α9 α10 α11 γ : Type} {x : Option (α1 × α2 × α3 × α4 × α5 × α6 × α7 × α8 × α9 × α10 × α11)} {k : α1 → α2 → α3 → α4 → α5 → α6 → α7 → α8 → α9 → α10 → α11 → Option γ} {r : γ} (h : tp_b11 x k = some r) : ∃ a1 a2 a3 a4 a5 a6 a7 a8 a9 a10 a11, x = some (a1, a2, a3, a4, a5, a6, a7, a8, a9, a10, a11) ∧ k a1 a2 a3 a4 a5 a6 a7 a8 a9 a10 a11 = some r := by
  cases x with
  | none => exact absurd h (by simp [tp_b11])
  | some q => exact ⟨q.1, q.2.1, q.2.2.1, q.2.2.2.1, q.2.2.2.2.1, q.2.2.2.2.2.1, q.2.2.2.2.2.2.1, q.2.2.2.2.2.2.2.1, q.2.2.2.2.2.2.2.2.1, q.2.2.2.2.2.2.2.2.2.1, q.2.2.2.2.2.2.2.2.2.2, rfl, h⟩
theorem tp_b11_s {α1 α2 α3 α4 α5 α6 α7 α8 α9 α10 α11 γ : Type} {k : α1 → α2 → α3 → α4 → α5 → α6 → α7 → α8 → α9 → α10 → α11 → Option γ} {a1 : α1} {a2 : α2} {a3 : α3} {a4 : α4} {a5 : α5} {a6 : α6} {a7 : α7} {a8 : α8} {a9 : α9} {a10 : α10} {a11 : α11} : tp_b11 (some (a1, a2, a3, a4, a5, a6, a7, a8, a9, a10, a11)) k = k a1 a2 a3 a4 a5 a6 a7 a8 a9 a10 a11 := rfl
def tp_b12 {α1 α2 α3 α4 α5 α6 α7 α8 α9 α10 α11 α12 γ : Type} (x : Option (α1 × α2 × α3 × α4 × α5 × α6 × α7 × α8 × α9 × α10 × α11 × α12)) (k : α1 → α2 → α3 → α4 → α5 → α6 → α7 → α8 → α9 → α10 → α11 → α12 → Option γ) : Option γ := x.bind fun q => k q.1 q.2.1 q.2.2.1 q.2.2.2.1 q.2.2.2.2.1 q.2.2.2.2.2.1 q.2.2.2.2.2.2.1 q.2.2.2.2.2.2.2.1 q.2.2.2.2.2.2.2.2.1 q.2.2.2.2.2.2.2.2.2.1 q.2.2.2.2.2.2.2.2.2.2.1 q.2.2.2.2.2.2.2.2.2.2.2
theorem tp_b12_e {α1 α2 α3 α4 α5 α6 α7 α8 α9 α10 α11 α12 γ : Type} {x : Option (α1 × α2 × α3 × α4 × α5 × α6 × α7 × α8 × α9 × α10 × α11 × α12)} {k : α1 → α2 → α3 → α4 → α5 → α6 → α7 → α8 → α9 → α10 → α11 → α12 → Option γ} {r : γ} (h : tp_b12 x k = some r) : ∃ a1 a2 a3 a4 a5 a6 a7 a8 a9 a10 a11 a12, x = some (a1, a2, a3, a4, a5, a6, a7, a8, a9, a10, a11, a12) ∧ k a1 a2 a3 a4 a5 a6 a7 a8 a9 a10 a11 a12 = some r := by
  cases x with
  | none => exact absurd h (by simp [tp_b12])
  | some q => exact ⟨q.1, q.2.1, q.2.2.1, q.2.2.2.1, q.2.2.2.2.1, q.2.2.2.2.2.1, q.2.2.2.2.2.2.1, q.2.2.2.2.2.2.2.1, q.2.2.2.2.2.2.2.2.1, q.2.2.2.2.2.2.2.2.2.1, q.2.2.2.2.2.2.2.2.2.2.1, q.2.2.2.2.2.2.2.2.2.2.2, rfl, h⟩
theorem tp_b12_s {α1 α2 α3 α4 α5 α6 α7 α8 α9 α10 α11 α12 γ : Type} {k : α1 → α2 → α3 → α4 → α5 → α6 → α7 → α8 → α9 → α10 → α11 → α12 → Option γ} {a1 : α1} {a2 : α2} {a3 : α3} {a4 : α4} {a5 : α5} {a6 : α6} {a7 : α7} {a8 : α8} {a9 : α9} {a10 : α10} {a11 : α11} {a12 : α12} : tp_b12 (some (a1, a2, a3, a4, a5, a6, a7, a8, a9, a10, a11, a12)) k = k a1 a2 a3 a4 a5 a6 a7 a8 a9 a10 a11 a12 := rfl
def tp_b13 {α1 α2 α3 α4 α5 α6 α7 α8 α9 α10 α11 α12 α13 γ : Type} (x : Option (α1 × α2 × α3 × α4 × α5 × α6 × α7 × α8 × α9 × α10 × α11 × α12 × α13)) (k : α1 → α2 → α3 → α4 → α5 → α6 → α7 → α8 → α9 → α10 → α11 → α12 → α13 → Option γ) : Option γ := x.bind fun q => k q.1 q.2.1 q.2.2.1 q.2.2.2.1 q.2.2.2.2.1 q.2.2.2.2.2.1 q.2.2.2.2.2.2.1 q.2.2.2.2.2.2.2.1 q.2.2.2.2.2.2.2.2.1 q.2.2.2.2.2.2.2.2.2.1 q.2.2.2.2.2.2.2.2.2.2.1 q.2.2.2.2.2.2.2.2.2.2.2.1 q.2.2.2.2.2.2.2.2.2.2.2.2
theorem tp_b13_e {α1 α2 α3 α4 α5 α6 α7 α8 α9 α10 α11 α12 α13 γ : Type} {x : Option (α1 × α2 × α3 × α4 × α5 × α6 × α7 × α8 × α9 × α10 × α11 × α12 × α13)} {k : α1 → α2 → α3 → α4 → α5 → α6 → α7 → α8 → α9 → α10 → α11 → α12 → α13 → Option γ} {r : γ} (h : tp_b13 x k = some r) : ∃ a1 a2 a3 a4 a5 a6 a7 a8 a9 a10 a11 a12 a13, x = some (a1, a2, a3, a4, a5, a6, a7, a8, a9, a10, a11, a12, a13) ∧ k a1 a2 a3 a4 a5 a6 a7 a8 a9 a10 a11 a12 a13 = some r := by
  cases x with
  | none => exact absurd h (by simp [tp_b13])
  | some q => exact ⟨q.1, q.2.1, q.2.2.1, q.2.2.2.1, q.2.2.2.2.1, q.2.2.2.2.2.1, q.2.2.2.2.2.2.1, q.2.2.2.2.2.2.2.1, q.2.2.2.2.2.2.2.2.1, q.2.2.2.2.2.2.2.2.2.1, q.2.2.2.2.2.2.2.2.2.2.1, q.2.2.2.2.2.2.2.2.2.2.2.1, q.2.2.2.2.2.2.2.2.2.2.2.2, rfl, h⟩
theorem tp_b13_s {α1 α2 α3 α4 α5 α6 α7 α8 α9 α10 α11 α12 α13 γ : Type} {k : α1 → α2 → α3 → α4 → α5 → α6 → α7 → α8 → α9 → α10 → α11 → α12 → α13 → Option γ} {a1 : α1} {a2 : α2} {a3 : α3} {a4 : α4} {a5 : α5} {a6 : α6} {a7 : α7} {a8 : α8} {a9 : α9} {a10 : α10} {a11 : α11} {a12 : α12} {a13 : α13} : tp_b13 (some (a1, a2, a3, a4, a5, a6, a7, a8, a9, a10, a11, a12, a13)) k = k a1 a2 a3 a4 a5 a6 a7 a8 a9 a10 a11 a12 a13 := rfl
def tp_b14 {α1 α2 α3 α4 α5 α6 α7 α8 α9 α10 α11 α12 α13 α14 γ : Type} (x : Option (α1 × α2 × α3 × α4 × α5 × α6 × α7 × α8 × α9 × α10 × α11 × α12 × α13 × α14)) (k : α1 → α2 → α3 → α4 → α5 → α6 → α7 → α8 → α9 → α10 → α11 → α12 → α13 → α14 → Option γ) : Option γ := x.bind fun q => k q.1 q.2.1 q.2.2.1 q.2.2.2.1 q.2.2.2.2.1 q.2.2.2.2.2.1 q.2.2.2.2.2.2.1 q.2.2.2.2.2.2.2.1 q.2.2.2.2.2.2.2.2.1 q.2.2.2.2.2.2.2.2.2.1 q.2.2.2.2.2.2.2.2.2.2.1 q.2.2.2.2.2.2.2.2.2.2.2.1 q.2.2.2.2.2.2.2.2.2.2.2.2.1 q.2.2.2.2.2.2.2.2.2.2.2.2.2
theorem tp_b14_e {α1 α2 α3 α4 α5 α6 α7 α8 α9 α10 α11 α12 α13 α14 γ : Type} {x : Option (α1 × α2 × α3 × α4 × α5 × α6 × α7 × α8 × α9 × α10 × α11 × α12 × α13 × α14)} {k : α1 → α2 → α3 → α4 → α5 → α6 → α7 → α8 → α9 → α10 → α11 → α12 → α13 → α14 → Option γ} {r : γ} (h : tp_b14 x k = some r) : ∃ a1 a2 a3 a4 a5 a6 a7 a8 a9 a10 a11 a12 a13 a14, x = some (a1, a2, a3, a4, a5, a6, a7, a8, a9, a10, a11, a12, a13, a14) ∧ k a1 a2 a3 a4 a5 a6 a7 a8 a9 a10 a11 a12 a13 a14 = some r := by
  cases x with
  | none => exact absurd h (by simp [tp_b14])
  | some q => exact ⟨q.1, q.2.1, q.2.2.1, q.2.2.2.1, q.2.2.2.2.1, q.2.2.2.2.2.1, q.2.2.2.2.2.2.1, q.2.2.2.2.2.2.2.1, q.2.2.2.2.2.2.2.2.1, q.2.2.2.2.2.2.2.2.2.1, q.2.2.2.2.2.2.2.2.2.2.1, q.2.2.2.2.2.2.2.2.2.2.2.1, q.2.2.2.2.2.2.2.2.2.2.2.2.1, q.2.2.2.2.2.2.2.2.2.2.2.2.2, rfl, h⟩
theorem tp_b14_s {α1 α2 α3 α4 α5 α6 α7 α8 α9 α10 α11 α12 α13 α14 γ : Type} {k : α1 → α2 → α3 → α4 → α5 → α6 → α7 → α8 → α9 → α10 → α11 → α12 → α13 → α14 → Option γ} {a1 : α1} {a2 : α2} {a3 : α3} {a4 : α4} {a5 : α5} {a6 : α6} {a7 : α7} {a8 : α8} {a9 : α9} {a10 : α10} {a11 : α11} {a12 : α12} {a13 : α13} {a14 : α14} : tp_b14 (some (a1, a2, a3, a4, a5, a6, a7, a8, a9, a10, a11, a12, a13, a14)) k = k a1 a2 a3 a4 a5 a6 a7 a8 a9 a10 a11 a12 a13 a14 := rfl
def tp_b15 {α1 α2 α3 α4 α5 α6 α7 α8 α9 α10 α11 α12 α13 α14 α15 γ : Type} (x : Option (α1 × α2 × α3 × α4 × α5 × α6 × α7 × α8 × α9 × α10 × α11 × α12 × α13 × α14 × α15)) (k : α1 → α2 → α3 → α4 → α5 → α6 → α7 → α8 → α9 → α10 → α11 → α12 → α13 → α14 → α15 → Option γ) : Option γ := x.bind fun q => k q.1 q.2.1 q.2.2.1 q.2.2.2.1 q.2.2.2.2.1 q.2.2.2.2.2.1 q.2.2.2.2.2.2.1 q.2.2.2.2.2.2.2.1 q.2.2.2.2.2.2.2.2.1 q.2.2.2.2.2.2.2.2.2.1 q.2.2.2.2.2.2.2.2.2.2.1 q.2.2.2.2.2.2.2.2.2.2.2.1 q.2.2.2.2.2.2.2.2.2.2.2.2.1 q.2.2.2.2.2.2.2.2.2.2.2.2.2.1 q.2.2.2.2.2.2.2.2.2.2.2.2.2.2
theorem tp_b15_e {α1 α2 α3 α4 α5 α6 α7 α8 α9 α10 α11 α12 α13 α14 α15 γ : Type} {x : Option (α1 × α2 × α3 × α4 × α5 × α6 × α7 × α8 × α9 × α10 × α11 × α12 × α13 × α14 × α15)} {k : α1 → α2 → α3 → α4 → α5 → α6 → α7 → α8 → α9 → α10 → α11 → α12 → α13 → α14 → α15 → Option γ} {r : γ} (h : tp_b15 x k = some r) : ∃ a1 a2 a3 a4 a5 a6 a7 a8 a9 a10 a11 a12 a13 a14 a15, x = some (a1, a2, a3, a4, a5, a6, a7, a8, a9, a10, a11, a12, a13, a14, a15) ∧ k a1 a2 a3 a4 a5 a6 a7 a8 a9 a10 a11 a12 a13 a14 a15 = some r := by
  cases x with
  | none => exact absurd h (by simp [tp_b15])
  | some q => exact ⟨q.1, q.2.1, q.2.2.1, q.2.2.2.1, q.2.2.2.2.1, q.2.2.2.2.2.1, q.2.2.2.2.2.2.1, q.2.2.2.2.2.2.2.1, q.2.2.2.2.2.2.2.2.1, q.2.2.2.2.2.2.2.2.2.1, q.2.2.2.2.2.2.2.2.2.2.1, q.2.2.2.2.2.2.2.2.2.2.2.1, q.2.2.2.2.2.2.2.2.2.2.2.2.1, q.2.2.2.2.2.2.2.2.2.2.2.2.2.1, q.2.2.2.2.2.2.2.2.2.2.2.2.2.2, rfl, h⟩
theorem tp_b15_s {α1 α2 α3 α4 α5 α6 α7 α8 α9 α10 α11 α12 α13 α14 α15 γ : Type} {k : α1 → α2 → α3 → α4 → α5 → α6 → α7 → α8 → α9 → α10 → α11 → α12 → α13 → α14 → α15 → Option γ} {a1 : α1} {a2 : α2} {a3 : α3} {a4 : α4} {a5 : α5} {a6 : α6} {a7 : α7} {a8 : α8} {a9 : α9} {a10 : α10} {a11 : α11} {a12 : α12} {a13 : α13} {a14 : α14} {a15 : α15} : tp_b15 (some (a1, a2, a3, a4, a5, a6, a7, a8, a9, a10, a11, a12, a13, a14, a15)) k = k a1 a2 a3 a4 a5 a6 a7 a8 a9 a10 a11 a12 a13 a14 a15 := rfl
def tp_b16 {α1 α2 α3 α4 α5 α6 α7 α8 α9 α10 α11 α12 α13 α14 α15 α16 γ : Type} (x : Option (α1 × α2 × α3 × α4 × α5 × α6 × α7 × α8 × α9 × α10 × α11 × α12 × α13 × α14 × α15 × α16)) (k : α1 → α2 → α3 → α4 → α5 → α6 → α7 → α8 → α9 → α10 → α11 → α12 → α13 → α14 → α15 → α16 → Option γ) : Option γ := x.bind fun q => k q.1 q.2.1 q.2.2.1 q.2.2.2.1 q.2.2.2.2.1 q.2.2.2.2.2.1 q.2.2.2.2.2.2.1 q.2.2.2.2.2.2.2.1 q.2.2.2.2.2.2.2.2.1 q.2.2.2.2.2.2.2.2.2.1 q.2.2.2.2.2.2.2.2.2.2.1 q.2.2.2.2.2.2.2.2.2.2.2.1 q.2.2.2.2.2.2.2.2.2.2.2.2.1 q.2.2.2.2.2.2.2.2.2.2.2.2.2.1 q.2.2.2.2.2.2.2.2.2.2.2.2.2.2.1 q.2.2.2.2.2.2.2.2.2.2.2.2.2.2.2
theorem tp_b16_e {α1 α2 α3 α4 α5 α6 α7 α8 α9 α10 α11 α12 α13 α14 α15 α16 γ : Type} {x : Option (α1 × α2 × α3 × α4 × α5 × α6 × α7 × α8 × α9 × α10 × α11 × α12 × α13 × α14 × α15 × α16)} {k : α1 → α2 → α3 → α4 → α5 → α6 → α7 → α8 → α9 → α10 → α11 → α12 → α13 → α14 → α15 → α16 → Option γ} {r : γ} (h : tp_b16 x k = some r) : ∃ a1 a2 a3 a4 a5 a6 a7 a8 a9 a10 a11 a12 a13 a14 a15 a16, x = some (a1, a2, a3, a4, a5, a6, a7, a8, a9, a10, a11, a12, a13, a14, a15, a16) ∧ k a1 a2 a3 a4 a5 a6 a7 a8 a9 a10 a11 a12 a13 a14 a15 a16 = some r := by
  cases x with
  | none => exact absurd h (by simp [tp_b16])
  | some q => exact ⟨q.1, q.2.1, q.2.2.1, q.2.2.2.1, q.2.2.2.2.1, q.2.2.2.2.2.1, q.2.2.2.2.2.2.1, q.2.2.2.2.2.2.2.1, q.2.2.2.2.2.2.2.2.1, q.2.2.2.2.2.2.2.2.2.1, q.2.2.2.2.2.2.2.2.2.2.1, q.2.2.2.2.2.2.2.2.2.2.2.1, q.2.2.2.2.2.2.2.2.2.2.2.2.1, q.2.2.2.2.2.2.2.2.2.2.2.2.2.1, q.2.2.2.2.2.2.2.2.2.2.2.2.2.2.1, q.2.2.2.2.2.2.2.2.2.2.2.2.2.2.2, rfl, h⟩
theorem tp_b16_s {α1 α2 α3 α4 α5 α6 α7 α8 α9 α10 α11 α12 α13 α14 α15 α16 γ : Type} {k : α1 → α2 → α3 → α4 → α5 → α6 → α7 → α8 → α9 → α10 → α11 → α12 → α13 → α14 → α15 → α16 → Option γ} {a1 : α1} {a2 : α2} {a3 : α3} {a4 : α4} {a5 : α5} {a6 : α6} {a7 : α7} {a8 : α8} {a9 : α9} {a10 : α10} {a11 : α11} {a12 : α12} {a13 : α13} {a14 : α14} {a15 : α15} {a16 : α16} : tp_b16 (some (a1, a2, a3, a4, a5, a6, a7, a8, a9, a10, a11, a12, a13, a14, a15, a16)) k = k a1 a2 a3 a4 a5 a6 a7 a8 a9 a10 a11 a12 a13 a14 a15 a16 := rfl
theorem tp_inj1 {α1 : Type} {a1 b1 : α1} (h : (some (a1) : Option (α1)) = some (b1)) : a1 = b1 := by
  exact Option.some.inj h
theorem tp_inj2 {α1 α2 : Type} {a1 b1 : α1} {a2 b2 : α2} (h : (some (a1, a2) : Option (α1 × α2)) = some (b1, b2)) : a1 = b1 ∧ a2 = b2 := by
  have h1 := Option.some.inj h
  obtain ⟨e1, h2⟩ := Prod.mk.inj h1
  exact ⟨e1, h2⟩
theorem tp_inj3 {α1 α2 α3 : Type} {a1 b1 : α1} {a2 b2 : α2} {a3 b3 : α3} (h : (some (a1, a2, a3) : Option (α1 × α2 × α3)) = some (b1, b2, b3)) : a1 = b1 ∧ a2 = b2 ∧ a3 = b3 := by
  have h1 := Option.some.inj h
  obtain ⟨e1, h2⟩ := Prod.mk.inj h1
  obtain ⟨e2, h3⟩ := Prod.mk.inj h2
  exact ⟨e1, e2, h3⟩
theorem tp_inj4 {α1 α2 α3 α4 : Type} {a1 b1 : α1} {a2 b2 : α2} {a3 b3 : α3} {a4 b4 : α4} (h : (some (a1, a2, a3, a4) : Option (α1 × α2 × α3 × α4)) = some (b1, b2, b3, b4)) : a1 = b1 ∧ a2 = b2 ∧ a3 = b3 ∧ a4 = b4 := by
  have h1 := Option.some.inj h
  obtain ⟨e1, h2⟩ := Prod.mk.inj h1
  obtain ⟨e2, h3⟩ := Prod.mk.inj h2
  obtain ⟨e3, h4⟩ := Prod.mk.inj h3
  exact ⟨e1, e2, e3, h4⟩
theorem tp_inj5 {α1 α2 α3 α4 α5 : Type} {a1 b1 : α1} {a2 b2 : α2} {a3 b3 : α3} {a4 b4 : α4} {a5 b5 : α5} (h : (some (a1, a2, a3, a4, a5) : Option (α1 × α2 × α3 × α4 × α5)) = some (b1, b2, b3, b4, b5)) : a1 = b1 ∧ a2 = b2 ∧ a3 = b3 ∧ a4 = b4 ∧ a5 = b5 := by
  have h1 := Option.some.inj h
  obtain ⟨e1, h2⟩ := Prod.mk.inj h1
  obtain ⟨e2, h3⟩ := Prod.mk.inj h2
  obtain ⟨e3, h4⟩ := Prod.mk.inj h3
  obtain ⟨e4, h5⟩ := Prod.mk.inj h4
  exact ⟨e1, e2, e3, e4, h5⟩
theorem tp_inj6 {α1 α2 α3 α4 α5 α6 : Type} {a1 b1 : α1} {a2 b2 : α2} {a3 b3 : α3} {a4 b4 : α4} {a5 b5 : α5} {a6 b6 : α6} (h : (some (a1, a2, a3, a4, a5, a6) : Option (α1 × α2 × α3 × α4 × α5 × α6)) = some (b1, b2, b3, b4, b5, b6)) : a1 = b1 ∧ a2 = b2 ∧ a3 = b3 ∧ a4 = b4 ∧ a5 = b5 ∧ a6 = b6 := by
  have h1 := Option.some.inj h
  obtain ⟨e1, h2⟩ := Prod.mk.inj h1
  obtain ⟨e2, h3⟩ := Prod.mk.inj h2
  obtain ⟨e3, h4⟩ := Prod.mk.inj h3
  obtain ⟨e4, h5⟩ := Prod.mk.inj h4
  obtain ⟨e5, h6⟩ := Prod.mk.inj h5
  exact ⟨e1, e2, e3, e4, e5, h6⟩
theorem tp_inj7 {α1 α2 α3 α4 α5 α6 α7 : Type} {a1 b1 : α1} {a2 b2 : α2} {a3 b3 : α3} {a4 b4 : α4} {a5 b5 : α5} {a6 b6 : α6} {a7 b7 : α7} (h : (some (a1, a2, a3, a4, a5, a6, a7) : Option (α1 × α2 × α3 × α4 × α5 × α6 × α7)) = some (b1, b2, b3, b4, b5, b6, b7)) : a1 = b1 ∧ a2 = b2 ∧ a3 = b3 ∧ a4 = b4 ∧ a5 = b5 ∧ a6 = b6 ∧ a7 = b7 := by
  have h1 := Option.some.inj h
  obtain ⟨e1, h2⟩ := Prod.mk.inj h1
  obtain ⟨e2, h3⟩ := Prod.mk.inj h2
  obtain ⟨e3, h4⟩ := Prod.mk.inj h3
  obtain ⟨e4, h5⟩ := Prod.mk.inj h4
  obtain ⟨e5, h6⟩ := Prod.mk.inj h5
  obtain ⟨e6, h7⟩ := Prod.mk.inj h6
  exact ⟨e1, e2, e3, e4, e5, e6, h7⟩
theorem tp_inj8 {α1 α2 α3 α4 α5 α6 α7 α8 : Type} {a1 b1 : α1} {a2 b2 : α2} {a3 b3 : α3} {a4 b4 : α4} {a5 b5 : α5} {a6 b6 : α6} {a7 b7 : α7} {a8 b8 : α8} (h : (some (a1, a2, a3, a4, a5, a6, a7, a8) : Option (α1 × α2 × α3 × α4 × α5 × α6 × α7 × α8)) = some (b1, b2, b3, b4, b5, b6, b7, b8)) : a1 = b1 ∧ a2 = b2 ∧ a3 = b3 ∧ a4 = b4 ∧ a5 = b5 ∧ a6 = b6 ∧ a7 = b7 ∧ a8 = b8 := by
  have h1 := Option.some.inj h
  obtain ⟨e1, h2⟩ := Prod.mk.inj h1
  obtain ⟨e2, h3⟩ := Prod.mk.inj h2
  obtain ⟨e3, h4⟩ := Prod.mk.inj h3
  obtain ⟨e4, h5⟩ := Prod.mk.inj h4
  obtain ⟨e5, h6⟩ := Prod.mk.inj h5
  obtain ⟨e6, h7⟩ := Prod.mk.inj h6
  obtain ⟨e7, h8⟩ := Prod.mk.inj h7
  exact ⟨e1, e2, e3, e4, e5, e6, e7, h8⟩
theorem tp_inj9 {α1 α2 α3 α4 α5 α6 α7 α8 α9 : Type} {a1 b1 : α1} {a2 b2 : α2} {a3 b3 : α3} {a4 b4 : α4} {a5 b5 : α5} {a6 b6 : α6} {a7 b7 : α7} {a8 b8 : α8} {a9 b9 : α9} (h : (some (a1, a2, a3, a4, a5, a6, a7, a8, a9) : Option (α1 × α2 × α3 × α4 × α5 × α6 × α7 × α8 × α9)) = some (b1, b2, b3, b4, b5, b6, b7, b8, b9)) : a1 = b1 ∧ a2 = b2 ∧ a3 = b3 ∧ a4 = b4 ∧ a5 = b5 ∧ a6 = b6 ∧ a7 = b7 ∧ a8 = b8 ∧ a9 = b9 := by
  have h1 := Option.some.inj h
  obtain ⟨e1, h2⟩ := Prod.mk.inj h1
  obtain ⟨e2, h3⟩ := Prod.mk.inj h2
  obtain ⟨e3, h4⟩ := Prod.mk.inj h3
  obtain ⟨e4, h5⟩ := Prod.mk.inj h4
  obtain ⟨e5, h6⟩ := Prod.mk.inj h5
  obtain ⟨e6, h7⟩ := Prod.mk.inj h6
  obtain ⟨e7, h8⟩ := Prod.mk.inj h7
  obtain ⟨e8, h9⟩ := Prod.mk.inj h8
  exact ⟨e1, e2, e3, e4, e5, e6, e7, e8, h9⟩
theorem tp_inj10 {α1 α2 α3 α4 α5 α6 α7 α8 α9 α10 : Type} {a1 b1 : α1} {a2 b2 : α2} {a3 b3 : α3} {a4 b4 : α4} {a5 b5 : α5} {a6 b6 : α6} {a7 b7 : α7} {a8 b8 : α8} {a9 b9 : α9} {a10 b10 : α10} (h : (some (a1, a2, a3, a4, a5, a6, a7, a8, a9, a10) : Option (α1 × α2 × α3 × α4 × α5 × α6 × α7 × α8 × α9 × α10)) = some (b1, b2, b3, b4, b5, b6, b7, b8, b9, b10)) : a1 = b1 ∧ a2 = b2 ∧ a3 = b3 ∧ a4 = b4 ∧ a5 = b5 ∧ a6 = b6 ∧ a7 = b7 ∧ a8 = b8 ∧ a9 = b9 ∧ a10 = b10 := by
  have h1 := Option.some.inj h
  obtain ⟨e1, h2⟩ := Prod.mk.inj h1
  obtain ⟨e2, h3⟩ := Prod.mk.inj h2
  obtain ⟨e3, h4⟩ := Prod.mk.inj h3
  obtain ⟨e4, h5⟩ := Prod.mk.inj h4
  obtain ⟨e5, h6⟩ := Prod.mk.inj h5
  obtain ⟨e6, h7⟩ := Prod.mk.inj h6
  obtain ⟨e7, h8⟩ := Prod.mk.inj h7
  obtain ⟨e8, h9⟩ := Prod.mk.inj h8
  obtain ⟨e9, h10⟩ := Prod.mk.inj h9
  exact ⟨e1, e2, e3, e4, e5, e6, e7, e8, e9, h10⟩
theorem tp_inj11 {α1 α2 α3 α4 α5 α6 α7 α8 α9 α10 α11 : Type} {a1 b1 : α1} {a2 b2 : α2} {a3 b3 : α3} {a4 b4 : α4} {a5 b5 : α5} {a6 b6 : α6} {a7 b7 : α7} {a8 b8 : α8} {a9 b9 : α9} {a10 b10 : α10} {a11 b11 : α11} (h : (some (a1, a2, a3, a4, a5, a6, a7, a8, a9, a10, a11) : Option (α1 × α2 × α3 × α4 × α5 × α6 × α7 × α8 × α9 × α10 × α11)) = some (b1, b2, b3, b4, b5, b6, b7, b8, b9, b10, b11)) : a1 = b1 ∧ a2 = b2 ∧ a3 = b3 ∧ a4 = b4 ∧ a5 = b5 ∧ a6 = b6 ∧ a7 = b7 ∧ a8 = b8 ∧ a9 = b9 ∧ a10 = b10 ∧ a11 = b11 := by
  have h1 := Option.some.inj h
  obtain ⟨e1, h2⟩ := Prod.mk.inj h1
  obtain ⟨e2, h3⟩ := Prod.mk.inj h2
  obtain ⟨e3, h4⟩ := Prod.mk.inj h3
  obtain ⟨e4, h5⟩ := Prod.mk.inj h4
  obtain ⟨e5, h6⟩ := Prod.mk.inj h5
  obtain ⟨e6, h7⟩ := Prod.mk.inj h6
  obtain ⟨e7, h8⟩ := Prod.mk.inj h7
  obtain ⟨e8, h9⟩ := Prod.mk.inj h8
  obtain ⟨e9, h10⟩ := Prod.mk.inj h9
  obtain ⟨e10, h11⟩ := Prod.mk.inj h10
  exact ⟨e1, e2, e3, e4, e5, e6, e7, e8, e9, e10, h11⟩
theorem tp_inj12 {α1 α2 α3 α4 α5 α6 α7 α8 α9 α10 α11 α12 : Type} {a1 b1 : α1} {a2 b2 : α2} {a3 b3 : α3} {a4 b4 : α4} {a5 b5 : α5} {a6 b6 : α6} {a7 b7 : α7} {a8 b8 : α8} {a9 b9 : α9} {a10 b10 : α10} {a11 b11 : α11} {a12 b12 : α12} (h : (some (a1, a2, a3, a4, a5, a6, a7, a8, a9, a10, a11, a12) : Option (α1 × α2 × α3 × α4 × α5 × α6 × α7 × α8 × α9 × α10 × α11 × α12)) = some (b1, b2, b3, b4, b5, b6, b7, b8, b9, b10, b11, b12)) : a1 = b1 ∧ a2 = b2 ∧ a3 = b3 ∧ a4 = b4 ∧ a5 = b5 ∧ a6 = b6 ∧ a7 = b7 ∧ a8 = b8 ∧ a9 = b9 ∧ a10 = b10 ∧ a11 = b11 ∧ a12 = b12 := by
  have h1 := Option.some.inj h
  obtain ⟨e1, h2⟩ := Prod.mk.inj h1
  obtain ⟨e2, h3⟩ := Prod.mk.inj h2
  obtain ⟨e3, h4⟩ := Prod.mk.inj h3
  obtain ⟨e4, h5⟩ := Prod.mk.inj h4
  obtain ⟨e5, h6⟩ := Prod.mk.inj h5
  obtain ⟨e6, h7⟩ := Prod.mk.inj h6
  obtain ⟨e7, h8⟩ := Prod.mk.inj h7
  obtain ⟨e8, h9⟩ := Prod.mk.inj h8
  obtain ⟨e9, h10⟩ := Prod.mk.inj h9
  obtain ⟨e10, h11⟩ := Prod.mk.inj h10
  obtain ⟨e11, h12⟩ := Prod.mk.inj h11
  exact ⟨e1, e2, e3, e4, e5, e6, e7, e8, e9, e10, e11, h12⟩
theorem tp_inj13 {α1 α2 α3 α4 α5 α6 α7 α8 α9 α10 α11 α12 α13 : Type} {a1 b1 : α1} {a2 b2 : α2} {a3 b3 : α3} {a4 b4 : α4} {a5 b5 : α5} {a6 b6 : α6} {a7 b7 : α7} {a8 b8 : α8} {a9 b9 : α9} {a10 b10 : α10} {a11 b11 : α11} {a12 b12 : α12} {a13 b13 : α13} (h : (some (a1, a2, a3, a4, a5, a6, a7, a8, a9, a10, a11, a12, a13) : Option (α1 × α2 × α3 × α4 × α5 × α6 × α7 × α8 × α9 × α10 × α11 × α12 × α13)) = some (b1, b2, b3, b4, b5, b6, b7, b8, b9, b10, b11, b12, b13)) : a1 = b1 ∧ a2 = b2 ∧ a3 = b3 ∧ a4 = b4 ∧ a5 = b5 ∧ a6 = b6 ∧ a7 = b7 ∧ a8 = b8 ∧ a9 = b9 ∧ a10 = b10 ∧ a11 = b11 ∧ a12 = b12 ∧ a13 = b13 := by
  have h1 := Option.some.inj h
  obtain ⟨e1, h2⟩ := Prod.mk.inj h1
  obtain ⟨e2, h3⟩ := Prod.mk.inj h2
  obtain ⟨e3, h4⟩ := Prod.mk.inj h3
  obtain ⟨e4, h5⟩ := Prod.mk.inj h4
  obtain ⟨e5, h6⟩ := Prod.mk.inj h5
  obtain ⟨e6, h7⟩ := Prod.mk.inj h6
  obtain ⟨e7, h8⟩ := Prod.mk.inj h7
  obtain ⟨e8, h9⟩ := Prod.mk.inj h8
  obtain ⟨e9, h10⟩ := Prod.mk.inj h9
  obtain ⟨e10, h11⟩ := Prod.mk.inj h10
  obtain ⟨e11, h12⟩ := Prod.mk.inj h11
  obtain ⟨e12, h13⟩ := Prod.mk.inj h12
  exact ⟨e1, e2, e3, e4, e5, e6, e7, e8, e9, e10, e11, e12, h13⟩
theorem tp_inj14 {α1 α2 α3 α4 α5 α6 α7 α8 α9 α10 α11 α12 α13 α14 : Type} {a1 b1 : α1} {a2 b2 : α2} {a3 b3 : α3} {a4 b4 : α4} {a5 b5 : α5} {a6 b6 : α6} {a7 b7 : α7} {a8 b8 : α8} {a9 b9 : α9} {a10 b10 : α10} {a11 b11 : α11} {a12 b12 : α12} {a13 b13 : α13} {a14 b14 : α14} (h : (some (a1, a2, a3, a4, a5, a6, a7, a8, a9, a10, a11, a12, a13, a14) : Option (α1 × α2 × α3 × α4 × α5 × α6 × α7 × α8 × α9 × α10 × α11 × α12 × α13 × α14)) = some (b1, b2, b3, b4, b5, b6, b7, b8, b9, b10, b11, b12, b13, b14)) : a1 = b1 ∧ a2 = b2 ∧ a3 = b3 ∧ a4 = b4 ∧ a5 = b5 ∧ a6 = b6 ∧ a7 = b7 ∧ a8 = b8 ∧ a9 = b9 ∧ a10 = b10 ∧ a11 = b11 ∧ a12 = b12 ∧ a13 = b13 ∧ a14 = b14 := by
  have h1 := Option.some.inj h
  obtain ⟨e1, h2⟩ := Prod.mk.inj h1
  obtain ⟨e2, h3⟩ := Prod.mk.inj h2
  obtain ⟨e3, h4⟩ := Prod.mk.inj h3
  obtain ⟨e4, h5⟩ := Prod.mk.inj h4
  obtain ⟨e5, h6⟩ := Prod.mk.inj h5
  obtain ⟨e6, h7⟩ := Prod.mk.inj h6
  obtain ⟨e7, h8⟩ := Prod.mk.inj h7
  obtain ⟨e8, h9⟩ := Prod.mk.inj h8
  obtain ⟨e9, h10⟩ := Prod.mk.inj h9
  obtain ⟨e10, h11⟩ := Prod.mk.inj h10
  obtain ⟨e11, h12⟩ := Prod.mk.inj h11
  obtain ⟨e12, h13⟩ := Prod.mk.inj h12
  obtain ⟨e13, h14⟩ := Prod.mk.inj h13
  exact ⟨e1, e2, e3, e4, e5, e6, e7, e8, e9, e10, e11, e12, e13, h14⟩
theorem tp_inj15 {α1 α2 α3 α4 α5 α6 α7 α8 α9 α10 α11 α12 α13 α14 α15 : Type} {a1 b1 : α1} {a2 b2 : α2} {a3 b3 : α3} {a4 b4 : α4} {a5 b5 : α5} {a6 b6 : α6} {a7 b7 : α7} {a8 b8 : α8} {a9 b9 : α9} {a10 b10 : α10} {a11 b11 : α11} {a12 b12 : α12} {a13 b13 : α13} {a14 b14 : α14} {a15 b15 : α15} (h : (some (a1, a2, a3, a4, a5, a6, a7, a8, a9, a10, a11, a12, a13, a14, a15) : Option (α1 × α2 × α3 × α4 × α5 × α6 × α7 × α8 × α9 × α10 × α11 × α12 × α13 × α14 × α15)) = some (b1, b2, b3, b4, b5, b6, b7, b8, b9, b10, b11, b12, b13, b14, b15)) : a1 = b1 ∧ a2 = b2 ∧ a3 = b3 ∧ a4 = b4 ∧ a5 = b5 ∧ a6 = b6 ∧ a7 = b7 ∧ a8 = b8 ∧ a9 = b9 ∧ a10 = b10 ∧ a11 = b11 ∧ a12 = b12 ∧ a13 = b13 ∧ a14 = b14 ∧ a15 = b15 := by
  have h1 := Option.some.inj h
  obtain ⟨e1, h2⟩ := Prod.mk.inj h1
  obtain ⟨e2, h3⟩ := Prod.mk.inj h2
  obtain ⟨e3, h4⟩ := Prod.mk.inj h3
  obtain ⟨e4, h5⟩ := Prod.mk.inj h4
  obtain ⟨e5, h6⟩ := Prod.mk.inj h5
  obtain ⟨e6, h7⟩ := Prod.mk.inj h6
  obtain ⟨e7, h8⟩ := Prod.mk.inj h7
  obtain ⟨e8, h9⟩ := Prod.mk.inj h8
  obtain ⟨e9, h10⟩ := Prod.mk.inj h9
  obtain ⟨e10, h11⟩ := Prod.mk.inj h10
  obtain ⟨e11, h12⟩ := Prod.mk.inj h11
  obtain ⟨e12, h13⟩ := Prod.mk.inj h12
  obtain ⟨e13, h14⟩ := Prod.mk.inj h13
  obtain ⟨e14, h15⟩ := Prod.mk.inj h14
  exact ⟨e1, e2, e3, e4, e5, e6, e7, e8, e9, e10, e11, e12, e13, e14, h15⟩
theorem tp_inj16 {α1 α2 α3 α4 α5 α6 α7 α8 α9 α10 α11 α12 α13 α14 α15 α16 : Type} {a1 b1 : α1} {a2 b2 : α2} {a3 b3 : α3} {a4 b4 : α4} {a5 b5 : α5} {a6 b6 : α6} {a7 b7 : α7} {a8 b8 : α8} {a9 b9 : α9} {a10 b10 : α10} {a11 b11 : α11} {a12 b12 : α12} {a13 b13 : α13} {a14 b14 : α14} {a15 b15 : α15} {a16 b16 : α16} (h : (some (a1, a2, a3, a4, a5, a6, a7, a8, a9, a10, a11, a12, a13, a14, a15, a16) : Option (α1 × α2 × α3 × α4 × α5 × α6 × α7 × α8 × α9 × α10 × α11 × α12 × α13 × α14 × α15 × α16)) = some (b1, b2, b3, b4, b5, b6, b7, b8, b9, b10, b11, b12, b13, b14, b15, b16)) : a1 = b1 ∧ a2 = b2 ∧ a3 = b3 ∧ a4 = b4 ∧ a5 = b5 ∧ a6 = b6 ∧ a7 = b7 ∧ a8 = b8 ∧ a9 = b9 ∧ a10 = b10 ∧ a11 = b11 ∧ a12 = b12 ∧ a13 = b13 ∧ a14 = b14 ∧ a15 = b15 ∧ a16 = b16 := by
  have h1 := Option.some.inj h
  obtain ⟨e1, h2⟩ := Prod.mk.inj h1
  obtain ⟨e2, h3⟩ := Prod.mk.inj h2
  obtain ⟨e3, h4⟩ := Prod.mk.inj h3
  obtain ⟨e4, h5⟩ := Prod.mk.inj h4
  obtain ⟨e5, h6⟩ := Prod.mk.inj h5
  obtain ⟨e6, h7⟩ := Prod.mk.inj h6
  obtain ⟨e7, h8⟩ := Prod.mk.inj h7
  obtain ⟨e8, h9⟩ := Prod.mk.inj h8
  obtain ⟨e9, h10⟩ := Prod.mk.inj h9
  obtain ⟨e10, h11⟩ := Prod.mk.inj h10
  obtain ⟨e11, h12⟩ := Prod.mk.inj h11
  obtain ⟨e12, h13⟩ := Prod.mk.inj h12
  obtain ⟨e13, h14⟩ := Prod.mk.inj h13
  obtain ⟨e14, h15⟩ := Prod.mk.inj h14
  obtain ⟨e15, h16⟩ := Prod.mk.inj h15
  exact ⟨e1, e2, e3, e4, e5, e6, e7, e8, e9, e10, e11, e12, e13, e14, e15, h16⟩
def tp_it1 {α1 γ : Type} (F : (α1 → Option γ) → α1 → Option γ) : Nat → α1 → Option γ
  | 0 => fun _ => none
  | n + 1 => F (tp_it1 F n)
def tp_it2 {α1 α2 γ : Type} (F : (α1 → α2 → Option γ) → α1 → α2 → Option γ) : Nat → α1 → α2 → Option γ
  | 0 => fun _ _ => none
  | n + 1 => F (tp_it2 F n)
def tp_it3 {α1 α2 α3 γ : Type} (F : (α1 → α2 → α3 → Option γ) → α1 → α2 → α3 → Option γ) : Nat → α1 → α2 → α3 → Option γ
  | 0 => fun _ _ _ => none
  | n + 1 => F (tp_it3 F n)
def tp_it4 {α1 α2 α3 α4 γ : Type} (F : (α1 → α2 → α3 → α4 → Option γ) → α1 → α2 → α3 → α4 → Option γ) : Nat → α1 → α2 → α3 → α4 → Option γ
  | 0 => fun _ _ _ _ => none
  | n + 1 => F (tp_it4 F n)
def tp_it5 {α1 α2 α3 α4 α5 γ : Type} (F : (α1 → α2 → α3 → α4 → α5 → Option γ) → α1 → α2 → α3 → α4 → α5 → Option γ) : Nat → α1 → α2 → α3 → α4 → α5 → Option γ
  | 0 => fun _ _ _ _ _ => none
  | n + 1 => F (tp_it5 F n)
def tp_it6 {α1 α2 α3 α4 α5 α6 γ : Type} (F : (α1 → α2 → α3 → α4 → α5 → α6 → Option γ) → α1 → α2 → α3 → α4 → α5 → α6 → Option γ) : Nat → α1 → α2 → α3 → α4 → α5 → α6 → Option γ
  | 0 => fun _ _ _ _ _ _ => none
  | n + 1 => F (tp_it6 F n)
def tp_it7 {α1 α2 α3 α4 α5 α6 α7 γ : Type} (F : (α1 → α2 → α3 → α4 → α5 → α6 → α7 → Option γ) → α1 → α2 → α3 → α4 → α5 → α6 → α7 → Option γ) : Nat → α1 → α2 → α3 → α4 → α5 → α6 → α7 → Option γ
  | 0 => fun _ _ _ _ _ _ _ => none
  | n + 1 => F (tp_it7 F n)
def tp_it8 {α1 α2 α3 α4 α5 α6 α7 α8 γ : Type} (F : (α1 → α2 → α3 → α4 → α5 → α6 → α7 → α8 → Option γ) → α1 → α2 → α3 → α4 → α5 → α6 → α7 → α8 → Option γ) : Nat → α1 → α2 → α3 → α4 → α5 → α6 → α7 → α8 → Option γ
  | 0 => fun _ _ _ _ _ _ _ _ => none
  | n + 1 => F (tp_it8 F n)
def tp_it9 {α1 α2 α3 α4 α5 α6 α7 α8 α9 γ : Type} (F : (α1 → α2 → α3 → α4 → α5 → α6 → α7 → α8 → α9 → Option γ) → α1 → α2 → α3 → α4 → α5 → α6 → α7 → α8 → α9 → Option γ) : Nat → α1 → α2 → α3 → α4 → α5 → α6 → α7 → α8 → α9 → Option γ
  | 0 => fun _ _ _ _ _ _ _ _ _ => none
  | n + 1 => F (tp_it9 F n)
def tp_it10 {α1 α2 α3 α4 α5 α6 α7 α8 α9 α10 γ : Type} (F : (α1 → α2 → α3 → α4 → α5 → α6 → α7 → α8 → α9 → α10 → Option γ) → α1 → α2 → α3 → α4 → α5 → α6 → α7 → α8 → α9 → α10 → Option γ) : Nat → α1 → α2 → α3 → α4 → α5 → α6 → α7 → α8 → α9 → α10 → Option γ
  | 0 => fun _ _ _ _ _ _ _ _ _ _ => none
  | n + 1 => F (tp_it10 F n)
def tp_it11 {α1 α2 α3 α4 α5 α6 α7 α8 α9 α10 α11 γ : Type} (F : (α1 → α2 → α3 → α4 → α5 → α6 → α7 → α8 → α9 → α10 → α11 → Option γ) → α1 → α2 → α3 → α4 → α5 → α6 → α7 → α8 → α9 → α10 → α11 → Option γ) : Nat → α1 → α2 → α3 → α4 → α5 → α6 → α7 → α8 → α9 → α10 → α11 → Option γ
  | 0 => fun _ _ _ _ _ _ _ _ _ _ _ => none
  | n + 1 => F (tp_it11 F n)
def tp_it12 {α1 α2 α3 α4 α5 α6 α7 α8 α9 α10 α11 α12 γ : Type} (F : (α1 → α2 → α3 → α4 → α5 → α6 → α7 → α8 → α9 → α10 → α11 → α12 → Option γ) → α1 → α2 → α3 → α4 → α5 → α6 → α7 → α8 → α9 → α10 → α11 → α12 → Option γ) : Nat → α1 → α2 → α3 → α4 → α5 → α6 → α7 → α8 → α9 → α10 → α11 → α12 → Option γ
  | 0 => fun _ _ _ _ _ _ _ _ _ _ _ _ => none
  | n + 1 => F (tp_it12 F n)
def tp_it13 {α1 α2 α3 α4 α5 α6 α7 α8 α9 α10 α11 α12 α13 γ : Type} (F : (α1 → α2 → α3 → α4 → α5 → α6 → α7 → α8 → α9 → α10 → α11 → α12 → α13 → Option γ) → α1 → α2 → α3 → α4 → α5 → α6 → α7 → α8 → α9 → α10 → α11 → α12 → α13 → Option γ) : Nat → α1 → α2 → α3 → α4 → α5 → α6 → α7 → α8 → α9 → α10 → α11 → α12 → α13 → Option γ
  | 0 => fun _ _ _ _ _ _ _ _ _ _ _ _ _ => none
  | n + 1 => F (tp_it13 F n)
def tp_it14 {α1 α2 α3 α4 α5 α6 α7 α8 α9 α10 α11 α12 α13 α14 γ : Type} (F : (α1 → α2 → α3 → α4 → α5 → α6 → α7 → α8 → α9 → α10 → α11 → α12 → α13 → α14 → Option γ) → α1 → α2 → α3 → α4 → α5 → α6 → α7 → α8 → α9 → α10 → α11 → α12 → α13 → α14 → Option γ) : Nat → α1 → α2 → α3 → α4 → α5 → α6 → α7 → α8 → α9 → α10 → α11 → α12 → α13 → α14 → Option γ
  | 0 => fun _ _ _ _ _ _ _ _ _ _ _ _ _ _ => none
  | n + 1 => F (tp_it14 F n)
def tp_it15 {α1 α2 α3 α4 α5 α6 α7 α8 α9 α10 α11 α12 α13 α14 α15 γ : Type} (F : (α1 → α2 → α3 → α4 → α5 → α6 → α7 → α8 → α9 → α10 → α11 → α12 → α13 → α14 → α15 → Option γ) → α1 → α2 → α3 → α4 → α5 → α6 → α7 → α8 → α9 → α10 → α11 → α12 → α13 → α14 → α15 → Option γ) : Nat → α1 → α2 → α3 → α4 → α5 → α6 → α7 → α8 → α9 → α10 → α11 → α12 → α13 → α14 → α15 → Option γ
  | 0 => fun _ _ _ _ _ _ _ _ _ _ _ _ _ _ _ => none
  | n + 1 => F (tp_it15 F n)
def tp_it16 {α1 α2 α3 α4 α5 α6 α7 α8 α9 α10 α11 α12 α13 α14 α15 α16 γ : Type} (F : (α1 → α2 → α3 → α4 → α5 → α6 → α7 → α8 → α9 → α10 → α11 → α12 → α13 → α14 → α15 → α16 → Option γ) → α1 → α2 → α3 → α4 → α5 → α6 → α7 → α8 → α9 → α10 → α11 → α12 → α13 → α14 → α15 → α16 → Option γ) : Nat → α1 → α2 → α3 → α4 → α5 → α6 → α7 → α8 → α9 → α10 → α11 → α12 → α13 → α14 → α15 → α16 → Option γ
  | 0 => fun _ _ _ _ _ _ _ _ _ _ _ _ _ _ _ _ => none
  | n + 1 => F (tp_it16 F n)
