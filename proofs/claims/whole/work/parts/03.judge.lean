/-! THE JUDGEMENT: a method's walk over a pure memory. Cells are numbered from 0 on (the law's own heap size is the base); a cell's shape is (kind, size): a class's number, 10 int[], 11 boolean[], 20 + n an array of class n. -/
abbrev zMD : Type := MethodName × ByteArray × Nat × Option FieldType
abbrev zSh : Type := Nat × Nat
abbrev zMem : Type := (Nat → Nat → Int32) × (Nat → Nat → Int64) × (Nat → Nat → Option Nat)
abbrev zXs : Type := Nat × (Nat → Int32)
abbrev zLs : Type := List (Option Value)
abbrev zRQ : Type := Option Value → List zSh → zMem → Prop
def z_up {α : Type} (f : Nat → Nat → α) (a k : Nat) (v : α) : Nat → Nat → α := fun b j => if b = a ∧ j = k then v else f b j
theorem z_up_s {α : Type} (f : Nat → Nat → α) (a k : Nat) (v : α) : z_up f a k v a k = v := if_pos ⟨rfl, rfl⟩
theorem z_up_n {α : Type} (f : Nat → Nat → α) (a k b j : Nat) (v : α) (h : ¬ (b = a ∧ j = k)) : z_up f a k v b j = f b j := if_neg h
theorem z_up_o {α : Type} (f : Nat → Nat → α) (a k b : Nat) (v : α) (h : b ≠ a) : z_up f a k v b = f b := funext fun _ => if_neg fun q => h q.1
def z_sI (μ : zMem) (a k : Nat) (v : Int32) : zMem := (z_up μ.1 a k v, μ.2.1, μ.2.2)
def z_sL (μ : zMem) (a k : Nat) (v : Int64) : zMem := (μ.1, z_up μ.2.1 a k v, μ.2.2)
def z_sR (μ : zMem) (a k : Nat) (v : Option Nat) : zMem := (μ.1, μ.2.1, z_up μ.2.2 a k v)
def z_tk : FieldType → Nat
  | .int => 0
  | .boolean => 0
  | .long => 1
  | _ => 2
def z_ft (ci k : Nat) : FieldType := (ctT.getD ci tyX0) k
def z_fk (ci k : Nat) : Nat := z_tk (z_ft ci k)
def z_nf (ci : Nat) : Nat := match clT[ci]? with
  | some q => q.2.2
  | none => 0
def z_rv : Option Nat → Value
  | none => .null
  | some a => .ref a
def z_fv (μ : zMem) (a ci k : Nat) : Value := match z_fk ci k with
  | 0 => .int (μ.1 a k)
  | 1 => .long (μ.2.1 a k)
  | _ => z_rv (μ.2.2 a k)
def z_ta (b : Nat) (oa : Nat → Nat) (k : Nat) : Nat := if k < 1000000 then b + k else oa (k - 1000000)
def z_tr (b : Nat) (oa : Nat → Nat) : Value → Value
  | .ref k => .ref (z_ta b oa k)
  | v => v
theorem z_tr_rv (b : Nat) (oa : Nat → Nat) (o : Option Nat) : z_tr b oa (z_rv o) = va_rf (o.map (z_ta b oa)) := by cases o <;> rfl
theorem z_tr_cat (b : Nat) (oa : Nat → Nat) (v : Value) : (z_tr b oa v).category = v.category := by cases v <;> rfl
def z_ent (b : Nat) (oa : Nat → Nat) (ca : Nat → ClassId) (sh : zSh) (μ : zMem) (a : Nat) : va_E :=
  if sh.1 < 10 then .inr (sh.1, (List.range (z_nf sh.1)).map (fun k => z_tr b oa (z_fv μ a sh.1 k)))
  else if sh.1 < 20 then .inl (ca sh.1, sh.2, .inl (μ.1 a))
  else .inl (ca sh.1, sh.2, .inr (.inr (.inr (.inr (fun i => (μ.2.2 a i).map (z_ta b oa))))))
def z_ws (b : Nat) (oa : Nat → Nat) (ca : Nat → ClassId) (L : List zSh) (μ : zMem) : va_W := (List.range L.length).map (fun a => (b + a, z_ent b oa ca (L.getD a (0, 0)) μ a))
theorem z_ws_len {b : Nat} {oa : Nat → Nat} {ca : Nat → ClassId} {L : List zSh} {μ : zMem} : (z_ws b oa ca L μ).length = L.length := by simp [z_ws]
theorem z_ws_get {b : Nat} {oa : Nat → Nat} {ca : Nat → ClassId} {L : List zSh} {μ : zMem} {a : Nat} {sh : zSh} (h : L[a]? = some sh) : (z_ws b oa ca L μ)[a]? = some (b + a, z_ent b oa ca sh μ a) := by
  have hl : a < L.length := (List.getElem?_eq_some_iff.mp h).1
  have h2 : L.getD a (0, 0) = sh := by rw [List.getD_eq_getElem?_getD, h]; rfl
  unfold z_ws
  rw [List.getElem?_map, List.getElem?_range hl]
  show some (b + a, z_ent b oa ca (L.getD a (0, 0)) μ a) = _
  rw [h2]
theorem z_ws_inv {b : Nat} {oa : Nat → Nat} {ca : Nat → ClassId} {L : List zSh} {μ : zMem} {a : Nat} {q : Nat × va_E} (h : (z_ws b oa ca L μ)[a]? = some q) : a < L.length ∧ q = (b + a, z_ent b oa ca (L.getD a (0, 0)) μ a) := by
  have hl : a < L.length := by
    have := (List.getElem?_eq_some_iff.mp h).1
    rwa [z_ws_len] at this
  refine ⟨hl, ?_⟩
  unfold z_ws at h
  rw [List.getElem?_map, List.getElem?_range hl] at h
  exact (Option.some.inj h).symm
theorem z_ws_D {b : Nat} {oa : Nat → Nat} {ca : Nat → ClassId} {L : List zSh} {μ : zMem} : va_D (fun q => b ≤ q) (z_ws b oa ca L μ) := by
  refine ⟨fun i j p q hp hq h => ?_, fun k q hq => ?_⟩
  · obtain ⟨-, rfl⟩ := z_ws_inv hp
    obtain ⟨-, rfl⟩ := z_ws_inv hq
    have h : b + i = b + j := h
    omega
  · obtain ⟨-, rfl⟩ := z_ws_inv hq
    exact Nat.le_add_right _ _
theorem z_ws_set {b : Nat} {oa : Nat → Nat} {ca : Nat → ClassId} {L : List zSh} {μ μ' : zMem} {a : Nat} {sh : zSh} {e : va_E} (h : L[a]? = some sh) (he : e = z_ent b oa ca sh μ' a) (ho : ∀ x, x ≠ a → ∀ s, z_ent b oa ca s μ' x = z_ent b oa ca s μ x) : (z_ws b oa ca L μ).set a (b + a, e) = z_ws b oa ca L μ' := by
  have hl : a < L.length := (List.getElem?_eq_some_iff.mp h).1
  have h2 : L.getD a (0, 0) = sh := by rw [List.getD_eq_getElem?_getD, h]; rfl
  refine List.ext_getElem? fun i => ?_
  rw [List.getElem?_set]
  by_cases hi : a = i
  · subst hi
    rw [if_pos rfl, if_pos (by rw [z_ws_len]; exact hl), z_ws_get h, he]
  · rw [if_neg hi]
    unfold z_ws
    rw [List.getElem?_map, List.getElem?_map]
    cases hr : (List.range L.length)[i]? with
    | none => rfl
    | some j =>
      have hj : i = j := by
        obtain ⟨h3, h4⟩ := List.getElem?_eq_some_iff.mp hr
        simpa using h4
      subst hj
      show some (b + i, _) = some (b + i, _)
      rw [ho i (Ne.symm hi)]
theorem z_ent_I {b : Nat} {oa : Nat → Nat} {ca : Nat → ClassId} {μ : zMem} {a k : Nat} {v : Int32} (x : Nat) (hx : x ≠ a) (s : zSh) : z_ent b oa ca s (z_sI μ a k v) x = z_ent b oa ca s μ x := by
  unfold z_ent z_fv z_sI
  dsimp only
  rw [z_up_o _ _ _ _ _ hx]
theorem z_ent_L {b : Nat} {oa : Nat → Nat} {ca : Nat → ClassId} {μ : zMem} {a k : Nat} {v : Int64} (x : Nat) (hx : x ≠ a) (s : zSh) : z_ent b oa ca s (z_sL μ a k v) x = z_ent b oa ca s μ x := by
  unfold z_ent z_fv z_sL
  dsimp only
  rw [z_up_o _ _ _ _ _ hx]
theorem z_ent_R {b : Nat} {oa : Nat → Nat} {ca : Nat → ClassId} {μ : zMem} {a k : Nat} {v : Option Nat} (x : Nat) (hx : x ≠ a) (s : zSh) : z_ent b oa ca s (z_sR μ a k v) x = z_ent b oa ca s μ x := by
  unfold z_ent z_fv z_sR
  dsimp only
  rw [z_up_o _ _ _ _ _ hx]
/-- a field's put -/
theorem z_fs_set {b : Nat} {oa : Nat → Nat} {μ μ' : zMem} {a ci k : Nat} {v : Value} {N : Nat} (hk : z_fv μ' a ci k = v) (ho : ∀ j, j ≠ k → z_fv μ' a ci j = z_fv μ a ci j) : ((List.range N).map (fun j => z_tr b oa (z_fv μ a ci j))).set k (z_tr b oa v) = (List.range N).map (fun j => z_tr b oa (z_fv μ' a ci j)) := by
  refine List.ext_getElem? fun i => ?_
  rw [List.getElem?_set]
  by_cases hi : k = i
  · subst hi
    by_cases hl : k < N
    · rw [if_pos rfl, if_pos (by simpa using hl), List.getElem?_map, List.getElem?_range hl]
      show some (z_tr b oa v) = some (z_tr b oa (z_fv μ' a ci k))
      rw [hk]
    · rw [if_pos rfl, if_neg (by simpa using hl), List.getElem?_eq_none (by simpa using hl)]
  · rw [if_neg hi, List.getElem?_map, List.getElem?_map]
    cases hr : (List.range N)[i]? with
    | none => rfl
    | some j =>
      have hj : i = j := by
        obtain ⟨h3, h4⟩ := List.getElem?_eq_some_iff.mp hr
        simpa using h4
      subst hj
      show some (z_tr b oa (z_fv μ a ci i)) = some (z_tr b oa (z_fv μ' a ci i))
      rw [ho i (Ne.symm hi)]
