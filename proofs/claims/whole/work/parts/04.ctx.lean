/-! the context of a walk -/
abbrev zCx : Type := (Program × Launch × Env × Room × State) × (MethodId × Array Value × List Frame × Method × Code) × (Nat × (Nat → Nat) × va_G × (Nat → ClassId)) × ((State → Prop) × Nat × Nat)
def z_tys (ca : Nat → ClassId) : List (ClassId × FieldType) := [(ca 10, .int), (ca 11, .boolean), (ca 22, .object RX2), (ca 23, .object RX3), (ca 25, .object RX5)]
/-- nest mates' links -/
def z_ml : List (String × Nat × MethodName × String) := [("ShadowTax$Square", 40, ⟨"ShadowTax$Thing", "<init>", "()V"⟩, "ShadowTax"), ("ShadowTax$Square", 41, ⟨"ShadowTax$Rule", "<init>", "()V"⟩, "ShadowTax"), ("ShadowTax", 18, ⟨"ShadowTax$Reader", "<init>", "()V"⟩, "ShadowTax"), ("ShadowTax", 25, ⟨"ShadowTax$Image", "<init>", "()V"⟩, "ShadowTax"), ("ShadowTax", 40, ⟨"ShadowTax$Sheet", "<init>", "()V"⟩, "ShadowTax"), ("ShadowTax$Square", 110, ⟨"ShadowTax", "bounded", "(II)I"⟩, "ShadowTax"), ("ShadowTax$Thing", 28, ⟨"ShadowTax", "bounded", "(II)I"⟩, "ShadowTax"), ("ShadowTax$Square", 131, ⟨"ShadowTax", "bits", "(II)I"⟩, "ShadowTax")]
def z_fl : List (String × Nat × String × String × String × String) := [("ShadowTax$Square", 146, "ShadowTax", "LOWEST", "[I", "ShadowTax"), ("ShadowTax$Square", 149, "ShadowTax", "HIGHEST", "[I", "ShadowTax"), ("ShadowTax$Thing", 37, "ShadowTax", "ABOVE", "[I", "ShadowTax")]
/-- the String constants: place in the pool, text, bytes -/
def z_sk : List (Nat × String) := [(88, "hour"), (94, "height"), (96, "number"), (98, "long"), (100, "day"), (102, "cell"), (104, "slants"), (106, "dues"), (108, "sets"), (110, "or"), (112, "and"), (114, "not")]
def z_sb : List (List Int32) := [[104, 111, 117, 114], [104, 101, 105, 103, 104, 116], [110, 117, 109, 98, 101, 114], [108, 111, 110, 103], [100, 97, 121], [99, 101, 108, 108], [115, 108, 97, 110, 116, 115], [100, 117, 101, 115], [115, 101, 116, 115], [111, 114], [97, 110, 100], [110, 111, 116]]
def z_sl : List Nat := [4, 6, 6, 4, 3, 4, 6, 4, 4, 2, 3, 3]
def zNx (oa : Nat → Nat) (U : State) : Prop := (∀ q ∈ z_ml, va_Nw (.methodLinkNest q.1 q.2.1 q.2.2.1 q.2.2.2) U) ∧ (∀ q ∈ z_fl, va_Nw (.fieldLinkNest q.1 q.2.1 q.2.2.1 q.2.2.2.1 q.2.2.2.2.1 q.2.2.2.2.2) U) ∧ (∀ C ∈ [RX2, RX3, RX5], va_AO C U) ∧ ∀ (i : Nat) (q : Nat × String), z_sk[i]? = some q → vk_R "ShadowTax$Reader" q.1 q.2 (oa (10 + i)) U
/-- the outer arrays: 0 LOWEST, 1 HIGHEST, 2 ABOVE, 3 the script -/
def z_on (X : zXs) (j : Nat) : Nat := if j = 3 then X.1 else 6
def z_oc : List (List Int32) := [[0, 0, 0, 1, 0, 0], [364, 8191, 9, 20, 29, 5], [-1, 0, 0, 1, 2, 0]]
def z_of (X : zXs) (j : Nat) : Nat → Int32 := fun i => if j = 3 then X.2 i else (z_oc.getD j []).getD i 0
def zOut (b : Nat) (oa : Nat → Nat) (X : zXs) (U : State) (H : Heap) : Prop :=
  (∀ j, j < 4 → oa j < b ∧ va_X (oa j) (z_on X j) (z_of X j) U H) ∧ va_Z "ShadowTax" "LOWEST" "[I" (.ref (oa 0)) (fun q => b ≤ q) U H ∧ va_Z "ShadowTax" "HIGHEST" "[I" (.ref (oa 1)) (fun q => b ≤ q) U H ∧ va_Z "ShadowTax" "ABOVE" "[I" (.ref (oa 2)) (fun q => b ≤ q) U H ∧
  va_Z "java/lang/String" "COMPACT_STRINGS" "Z" (.int 1) (fun q => b ≤ q) U H ∧ (va_Z "jdk/internal/util/Preconditions" "SIOOBE_FORMATTER" "Ljava/util/function/BiFunction;" .null (fun q => b ≤ q) U H ∨ va_Z "jdk/internal/util/Preconditions" "SIOOBE_FORMATTER" "Ljava/util/function/BiFunction;" (.ref (oa 99)) (fun q => b ≤ q) U H) ∧ vk_S 12 z_sl z_sb (fun i => oa (10 + i)) (fun i => oa (30 + i)) (fun q => b ≤ q) U H
def zWd (b : Nat) (oa : Nat → Nat) (D : va_G) (ca : Nat → ClassId) (X : zXs) (U : State) (H : Heap) : Prop := va_K D clT (z_tys ca) U ∧ zNx oa U ∧ zOut b oa X U H ∧ b ≤ H.size
theorem zNx.warm {oa : Nat → Nat} {s U : State} (hW : s.WarmedH U.vm) (h : zNx oa s) : zNx oa U :=
  ⟨fun q hq => va_Nw.warmM hW (h.1 q hq), fun q hq => va_Nw.warmF hW (h.2.1 q hq), fun C hC => va_AO.moved hW.alike (h.2.2.1 C hC), fun i q hq => vk_R.warm hW (h.2.2.2 i q hq)⟩
theorem zNx.same {oa : Nat → Nat} {s U : State} (hv : U.vm = s.vm) (h : zNx oa s) : zNx oa U :=
  ⟨fun q hq => va_Nw.same rfl hv.symm (h.1 q hq), fun q hq => va_Nw.same rfl hv.symm (h.2.1 q hq), fun C hC => va_AO.moved (by rw [hv]; exact Vm.Alike.refl _) (h.2.2.1 C hC), fun i q hq => vk_R.same hv (h.2.2.2 i q hq)⟩
theorem zOut.moved {b : Nat} {oa : Nat → Nat} {X : zXs} {u U : State} {H : Heap} (hvm : u.vm.Alike U.vm) (h : zOut b oa X u H) : zOut b oa X U H := by
  obtain ⟨h1, h2, h3, h4, h5, h6, h7⟩ := h
  exact ⟨fun j hj => ⟨(h1 j hj).1, va_X.moved hvm (h1 j hj).2⟩, h2.moved hvm, h3.moved hvm, h4.moved hvm, h5.moved hvm, h6.imp (va_Z.moved hvm) (va_Z.moved hvm), h7.moved hvm⟩
theorem zOut.kept {b : Nat} {oa : Nat → Nat} {X : zXs} {U : State} {H H1 : Heap} (hb : b ≤ H.size) (hq : ∀ a : Nat, a < H.size → ¬ b ≤ a → H1[a]? = H[a]?) (h : zOut b oa X U H) : zOut b oa X U H1 := by
  obtain ⟨h1, h2, h3, h4, h5, h6, h7⟩ := h
  exact ⟨fun j hj => ⟨(h1 j hj).1, va_X.kept (h1 j hj).2 (hq _ (by have := (h1 j hj).1; omega) (by have := (h1 j hj).1; omega))⟩, h2.kept hq, h3.kept hq, h4.kept hq, h5.kept hq, h6.imp (fun z => va_Z.kept z hq) (fun z => va_Z.kept z hq), h7.kept hq⟩
theorem zWd.warm {b : Nat} {oa : Nat → Nat} {D : va_G} {ca : Nat → ClassId} {X : zXs} {s U : State} {H : Heap} (hW : s.WarmedH U.vm) (h : zWd b oa D ca X s H) : zWd b oa D ca X U H :=
  ⟨va_K.moved hW.alike h.1, h.2.1.warm hW, h.2.2.1.moved hW.alike, h.2.2.2⟩
theorem zWd.same {b : Nat} {oa : Nat → Nat} {D : va_G} {ca : Nat → ClassId} {X : zXs} {s U : State} {H : Heap} (hv : U.vm = s.vm) (h : zWd b oa D ca X s H) : zWd b oa D ca X U H :=
  ⟨va_K.moved (by rw [hv]; exact Vm.Alike.refl _) h.1, h.2.1.same hv, h.2.2.1.moved (by rw [hv]; exact Vm.Alike.refl _), h.2.2.2⟩
theorem zWd.kept {b : Nat} {oa : Nat → Nat} {D : va_G} {ca : Nat → ClassId} {X : zXs} {U : State} {H H1 : Heap} (hz : H.size ≤ H1.size) (hq : ∀ a : Nat, a < H.size → ¬ b ≤ a → H1[a]? = H[a]?) (h : zWd b oa D ca X U H) : zWd b oa D ca X U H1 :=
  ⟨h.1, h.2.1, h.2.2.1.kept h.2.2.2 hq, Nat.le_trans h.2.2.2 hz⟩
def zRel (b : Nat) (oa : Nat → Nat) (D : va_G) (ca : Nat → ClassId) (L : List zSh) (μ : zMem) (H : Heap) : Prop := va_P D clT (z_ws b oa ca L μ) H ∧ H.size = b + L.length
def zLR (M : zMD) (b : Nat) (oa : Nat → Nat) (ls : zLs) (lsM : Array Slot) : Prop := ls.length = M.2.2.1 ∧ lsM.size = M.2.2.1 ∧ lv_wf lsM ∧ ∀ (i : Nat) (v : Value), ls[i]? = some (some v) → lsM[i]? = some (.val (z_tr b oa v))
def zRet (M : zMD) (pc : Nat) (v : Option Value) : Prop := (decode M.2.1 pc = .ok (.return_, 1) ∧ v = none ∧ M.2.2.2 = none) ∨ (∃ (x : Int32) (ty : FieldType), decode M.2.1 pc = .ok (.ireturn, 1) ∧ v = some (.int x) ∧ M.2.2.2 = some ty ∧ narrow ty (.int x) = .int x) ∨ ∃ x : Int64, decode M.2.1 pc = .ok (.lreturn, 1) ∧ v = some (.long x) ∧ M.2.2.2 = some .long
def zGood (X : zXs) (d : Nat) (C : zCx) (M : zMD) (Q : zRQ) : Prop := match C with
  | ((p, l, e, R, s), (m, args, below, meth, c), (b, oa, D, ca), (Z, mc, ms)) =>
    (p.tables.exec = Jvm.exec ∧ c.code = M.2.1 ∧ meth.sig.returnType = M.2.2.2 ∧ c.maxLocals = M.2.2.1 ∧ s.vm.findClass M.1.cls = some m.cls ∧ (∀ w ∈ tbG, w.before args s = true) ∧ meth.locks = false ∧ (M.1.name = "<init>" → meth.name = "<init>")) ∧
    zWd b oa D ca X s s.heap ∧ (d ≤ R.frames ∧ 64 * d ≤ R.locals ∧ mc ≤ R.cells ∧ ms ≤ R.slots) ∧
    ∀ (v : Option Value) (L : List zSh) (μ : zMem) (H : Heap) (locs : List Loc) (cells slots pc : Nat) (lsM : Array Slot), Q v L μ → zRel b oa D ca L μ H → va_S (fun q => b ≤ q) s.heap H locs → cells ≤ mc → slots ≤ ms → zRet M pc v → W p l e R s m args below meth c H locs cells slots Z (F0 m pc lsM ((v.map (z_tr b oa)).toList))
def zT (X : zXs) (d : Nat) (M : zMD) (Q : zRQ) (k n pc : Nat) (ls : zLs) (st : List Value) (L : List zSh) (μ : zMem) : Prop :=
  ∀ (C : zCx), zGood X d C M Q → match C with
  | ((p, l, e, R, s), (m, args, below, meth, c), (b, oa, D, ca), (Z, mc, ms)) => ∀ (H : Heap) (locs : List Loc) (cells slots : Nat) (lsM : Array Slot), cells + k ≤ mc → slots + n ≤ ms → zRel b oa D ca L μ H → va_S (fun q => b ≤ q) s.heap H locs → zLR M b oa ls lsM → W p l e R s m args below meth c H locs cells slots Z (F0 m pc lsM (st.map (z_tr b oa)))
def z_w (M : zMD) : List Cond := .code M.1 M.2.1 M.2.2.1 M.2.2.2 :: tbG
def zQc (b : Nat) (oa : Nat → Nat) (D : va_G) (ca : Nat → ClassId) (Q : zRQ) : Array Value → State → Outcome → State → Prop := fun _ st o t => ∃ (v : Option Value) (L : List zSh) (μ : zMem), o = .returned (v.map (z_tr b oa)) ∧ Q v L μ ∧ zRel b oa D ca L μ t.heap ∧ va_F (fun q => b ≤ q) st t
/-- a contract: with d frames left, k cells and n slots to make -/
def zC (X : zXs) (d k n : Nat) (M : zMD) (as : List Value) (L : List zSh) (μ : zMem) (Q : zRQ) : Prop :=
  ∀ (l : Launch) (b : Nat) (oa : Nat → Nat) (D : va_G) (ca : Nat → ClassId), Met l M.1 (z_w M) ({ frames := d, cells := k, slots := n, locals := 64 * d }) (va_Pc (as.map (z_tr b oa)) (fun U => zWd b oa D ca X U U.heap ∧ zRel b oa D ca L μ U.heap)) (zQc b oa D ca Q) k n (fun q => b ≤ q)
abbrev zPK : Type := Nat → Nat → Nat → zLs → List Value → List zSh → zMem → Prop
/-- an instruction: what must hold ahead of it so that what it goes on to holds -/
abbrev zOp : Type := zXs → Nat → zPK → zRQ → zPK
def zOk (M : zMD) (pc : Nat) (o : zOp) : Prop := ∀ (X : zXs) (d : Nat) (Q : zRQ) (k n : Nat) (ls : zLs) (st : List Value) (L : List zSh) (μ : zMem), o X d (zT X d M Q) Q k n pc ls st L μ → zT X d M Q k n pc ls st L μ
theorem zT.step {M : zMD} {ct : Nat → zOp} (ok : ∀ pc, zOk M pc (ct pc)) {X : zXs} {d : Nat} {Q : zRQ} {k n pc : Nat} {ls : zLs} {st : List Value} {L : List zSh} {μ : zMem} (h : ct pc X d (zT X d M Q) Q k n pc ls st L μ) : zT X d M Q k n pc ls st L μ := ok pc X d Q k n ls st L μ h
def o_bad : zOp := fun _ _ _ _ _ _ _ _ _ _ _ => False
theorem ok_bad {M : zMD} {pc : Nat} : zOk M pc o_bad := fun _ _ _ _ _ _ _ _ _ h => h.elim
theorem ok_b {M : zMD} {pc : Nat} {c : Bool} {A B : zOp} (h1 : zOk M pc A) (h2 : zOk M pc B) : zOk M pc (bif c then A else B) := by cases c <;> assumption
theorem ok_l {M : zMD} {pc q : Nat} {A : zOp} (h1 : zOk M q A) : zOk M pc (bif Nat.beq pc q then A else o_bad) := by
  cases h : Nat.beq pc q with
  | false => exact ok_bad
  | true => rw [Nat.eq_of_beq_eq_true h]; exact h1
