/-! THE CELLS behind the two constructors: 0 ShadowTax; 1 Square, 2 things, 3 texts, 4 longs, 5 dues, 6 values, 7 stack, 8+i Thing i, 16+3i Rule i (17+3i steps, 18+3i ends); 34 Reader, 35 tape; 36 Image, 37 numbers, 38 heights, 39 cells; 40 sheets, 41 clear, 42+2i Sheet i (43+2i numbers); 50 ShadowTaxModel, 51 texts, 52 textSize, 53 tape, 54 kinds, 55 rows, 56 longs, 57 hidden, 58 due, 59 rowsKept, 60 isThere, 61 sorts, 62 sheetSize, 63 items -/
def L0 : List zSh := [(6, 0), (4, 0), (25, 8), (22, 6), (10, 8), (10, 8), (10, 6), (10, 160), (5, 0), (5, 0), (5, 0), (5, 0), (5, 0), (5, 0), (5, 0), (5, 0), (2, 0), (10, 160), (10, 3), (2, 0), (10, 160), (10, 3), (2, 0), (10, 160), (10, 3), (2, 0), (10, 160), (10, 3), (2, 0), (10, 160), (10, 3), (2, 0), (10, 160), (10, 3), (1, 0), (10, 160), (0, 0), (10, 8), (10, 8), (10, 8), (23, 4), (10, 13), (3, 0), (10, 40), (3, 0), (10, 40), (3, 0), (10, 40), (3, 0), (10, 40), (7, 0), (10, 960), (10, 6), (10, 160), (10, 8), (10, 24), (10, 8), (10, 8), (10, 8), (10, 24), (11, 4), (10, 4), (10, 4), (10, 160)]
/-- the references; r: Reader.rule -/
def z_rho (r : Option Nat) : Nat → Nat → Option Nat := fun a k =>
  bif Nat.beq a 1 then (bif Nat.beq k 0 then some 2 else bif Nat.beq k 1 then some 3 else bif Nat.beq k 7 then some 4 else bif Nat.beq k 8 then some 5 else bif Nat.beq k 12 then some 6 else some 7)
  else bif Nat.beq a 50 then (bif Nat.beq k 1 then some 51 else bif Nat.beq k 2 then some 52 else bif Nat.beq k 5 then some 53 else bif Nat.beq k 9 then some 54 else bif Nat.beq k 10 then some 55 else bif Nat.beq k 28 then some 56 else bif Nat.beq k 29 then some 57 else bif Nat.beq k 30 then some 58 else bif Nat.beq k 34 then some 59 else bif Nat.beq k 39 then some 60 else bif Nat.beq k 40 then some 61 else bif Nat.beq k 41 then some 62 else some 63)
  else bif Nat.beq a 0 then (bif Nat.beq k 0 then some 1 else bif Nat.beq k 1 then some 34 else bif Nat.beq k 2 then some 36 else bif Nat.beq k 3 then some 40 else some 41)
  else bif Nat.beq a 2 then some (8 + k)
  else bif Nat.beq a 3 then some (16 + 3 * k)
  else bif Nat.beq a 34 then (bif Nat.beq k 1 then some 35 else r)
  else bif Nat.beq a 36 then (bif Nat.beq k 5 then some 37 else bif Nat.beq k 6 then some 38 else some 39)
  else bif Nat.beq a 40 then some (42 + 2 * k)
  else bif Nat.beq k 0 then some (a + 1) else some (a + 2)
abbrev zSg : Type := Nat → Nat → Int32
def mm (σ : zSg) (τ : Nat → Nat → Int64) (r : Option Nat) : zMem := (σ, τ, z_rho r)
theorem mm_sI (σ : zSg) (τ : Nat → Nat → Int64) (r : Option Nat) (a k : Nat) (v : Int32) : z_sI (mm σ τ r) a k v = mm (z_up σ a k v) τ r := rfl
theorem L0_thing : ∀ {i : Nat}, i < 8 → 8 + i < 1000000 ∧ ∃ w, L0[8 + i]? = some (5, w) := by
  intro i hi
  refine ⟨by omega, 0, ?_⟩
  match i, hi with
  | 0, _ => rfl
  | 1, _ => rfl
  | 2, _ => rfl
  | 3, _ => rfl
  | 4, _ => rfl
  | 5, _ => rfl
  | 6, _ => rfl
  | 7, _ => rfl
theorem L0_rule : ∀ {i : Nat}, i < 6 → (16 + 3 * i < 1000000 ∧ ∃ w, L0[16 + 3 * i]? = some (2, w)) ∧ (L0[17 + 3 * i]? = some (10, 160)) ∧ (L0[18 + 3 * i]? = some (10, 3)) := by
  intro i hi
  refine ⟨⟨by omega, 0, ?_⟩, ?_, ?_⟩ <;> (match i, hi with
  | 0, _ => rfl
  | 1, _ => rfl
  | 2, _ => rfl
  | 3, _ => rfl
  | 4, _ => rfl
  | 5, _ => rfl)
theorem L0_sheet : ∀ {i : Nat}, i < 4 → (42 + 2 * i < 1000000 ∧ ∃ w, L0[42 + 2 * i]? = some (3, w)) ∧ (L0[43 + 2 * i]? = some (10, 40)) := by
  intro i hi
  refine ⟨⟨by omega, 0, ?_⟩, ?_⟩ <;> (match i, hi with
  | 0, _ => rfl
  | 1, _ => rfl
  | 2, _ => rfl
  | 3, _ => rfl)
theorem rho_rule (r : Option Nat) : ∀ {i : Nat}, i < 6 → z_rho r (16 + 3 * i) 0 = some (17 + 3 * i) ∧ z_rho r (16 + 3 * i) 1 = some (18 + 3 * i) := by
  intro i hi
  match i, hi with
  | 0, _ => exact ⟨rfl, rfl⟩
  | 1, _ => exact ⟨rfl, rfl⟩
  | 2, _ => exact ⟨rfl, rfl⟩
  | 3, _ => exact ⟨rfl, rfl⟩
  | 4, _ => exact ⟨rfl, rfl⟩
  | 5, _ => exact ⟨rfl, rfl⟩
theorem rho_sheet (r : Option Nat) : ∀ {i : Nat}, i < 4 → z_rho r (42 + 2 * i) 0 = some (43 + 2 * i) := by
  intro i hi
  match i, hi with
  | 0, _ => rfl
  | 1, _ => rfl
  | 2, _ => rfl
  | 3, _ => rfl
/-- a contract with one end: the answer v, the memory μ' -/
def zF (X : zXs) (d : Nat) (M : zMD) (as : List Value) (L : List zSh) (μ : zMem) (v : Option Value) (μ' : zMem) : Prop := zC X d 0 0 M as L μ (fun w L2 μ2 => w = v ∧ L2 = L ∧ μ2 = μ')
theorem zF.use {X : zXs} {d : Nat} {M : zMD} {as : List Value} {L : List zSh} {μ μ' : zMem} {v : Option Value} {K : Option Value → List zSh → zMem → Prop} (h : zF X d M as L μ v μ') (k : K v L μ') : ∃ Q' : zRQ, zC X d 0 0 M as L μ Q' ∧ ∀ w L2 μ2, Q' w L2 μ2 → K w L2 μ2 :=
  ⟨_, h, fun w L2 μ2 q => by obtain ⟨rfl, rfl, rfl⟩ := q; exact k⟩
theorem zF.of {X : zXs} {d np : Nat} {M : zMD} {as : List Value} {L : List zSh} {μ μ' : zMem} {v : Option Value} (hM : zMok M np) (hcs : (Nat.ble (z_cs as) M.2.2.1 && z_nv as) = true) (h : zT X d M (fun w L2 μ2 => w = v ∧ L2 = L ∧ μ2 = μ') 0 0 0 (z_en M.2.2.1 as) [] L μ) : zF X d M as L μ v μ' := zC.of hM hcs h
/-- any contract, used -/
theorem zC.use {X : zXs} {d : Nat} {M : zMD} {as : List Value} {L : List zSh} {μ : zMem} {Q' : zRQ} {K : Option Value → List zSh → zMem → Prop} (h : zC X d 0 0 M as L μ Q') (k : ∀ w L2 μ2, Q' w L2 μ2 → K w L2 μ2) : ∃ Q' : zRQ, zC X d 0 0 M as L μ Q' ∧ ∀ w L2 μ2, Q' w L2 μ2 → K w L2 μ2 := ⟨_, h, k⟩
/-- a callee walked in place -/
theorem zC.inl {X : zXs} {d np : Nat} {M : zMD} {as : List Value} {L : List zSh} {μ : zMem} {K : Option Value → List zSh → zMem → Prop} (hM : zMok M np) (hcs : (Nat.ble (z_cs as) M.2.2.1 && z_nv as) = true) (h : zT X d M K 0 0 0 (z_en M.2.2.1 as) [] L μ) : ∃ Q' : zRQ, zC X d 0 0 M as L μ Q' ∧ ∀ w L2 μ2, Q' w L2 μ2 → K w L2 μ2 := ⟨_, zC.of hM hcs h, fun _ _ _ q => q⟩
