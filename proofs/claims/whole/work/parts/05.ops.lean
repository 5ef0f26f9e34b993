/-! INSTRUCTIONS over the pure memory, each with its row -/
theorem z_go {M : zMD} {X : zXs} {d : Nat} {Q : zRQ} {k n pc pc' : Nat} {ls : zLs} {st st' : List Value} {L : List zSh} {μ : zMem}
    (hw : ∀ (p : Program) (l : Launch) (e : Env) (R : Room) (s : State) (m : MethodId) (args : Array Value) (below : List Frame) (meth : Method) (c : Code) (b : Nat) (oa : Nat → Nat) (D : va_G) (ca : Nat → ClassId) (Z : State → Prop) (mc ms : Nat), zGood X d ((p, l, e, R, s), (m, args, below, meth, c), (b, oa, D, ca), (Z, mc, ms)) M Q → ∀ (H : Heap) (locs : List Loc) (cells slots : Nat) (lsM : Array Slot), cells ≤ mc → slots ≤ ms → zRel b oa D ca L μ H → va_S (fun q => b ≤ q) s.heap H locs → zLR M b oa ls lsM →
      W p l e R s m args below meth c H locs cells slots Z (F0 m pc' lsM (st'.map (z_tr b oa))) → W p l e R s m args below meth c H locs cells slots Z (F0 m pc lsM (st.map (z_tr b oa))))
    (h : zT X d M Q k n pc' ls st' L μ) : zT X d M Q k n pc ls st L μ := by
  intro ⟨⟨p, l, e, R, s⟩, ⟨m, args, below, meth, c⟩, ⟨b, oa, D, ca⟩, ⟨Z, mc, ms⟩⟩ G H locs cells slots lsM hk hn hR hS hL
  exact hw p l e R s m args below meth c b oa D ca Z mc ms G H locs cells slots lsM (Nat.le_trans (Nat.le_add_right _ _) hk) (Nat.le_trans (Nat.le_add_right _ _) hn) hR hS hL (h ((p, l, e, R, s), (m, args, below, meth, c), (b, oa, D, ca), (Z, mc, ms)) G H locs cells slots lsM hk hn hR hS hL)
/-- two roads -/
theorem z_go2 {M : zMD} {X : zXs} {d : Nat} {Q : zRQ} {k n pc pc1 pc2 : Nat} {ls : zLs} {st st' : List Value} {L : List zSh} {μ : zMem} {c1 : Prop}
    (hw : ∀ (p : Program) (l : Launch) (e : Env) (R : Room) (s : State) (m : MethodId) (args : Array Value) (below : List Frame) (meth : Method) (c : Code) (b : Nat) (oa : Nat → Nat) (D : va_G) (ca : Nat → ClassId) (Z : State → Prop) (mc ms : Nat), zGood X d ((p, l, e, R, s), (m, args, below, meth, c), (b, oa, D, ca), (Z, mc, ms)) M Q → ∀ (H : Heap) (locs : List Loc) (cells slots : Nat) (lsM : Array Slot),
      (c1 → W p l e R s m args below meth c H locs cells slots Z (F0 m pc1 lsM (st'.map (z_tr b oa)))) → (¬ c1 → W p l e R s m args below meth c H locs cells slots Z (F0 m pc2 lsM (st'.map (z_tr b oa)))) → W p l e R s m args below meth c H locs cells slots Z (F0 m pc lsM (st.map (z_tr b oa))))
    (h1 : c1 → zT X d M Q k n pc1 ls st' L μ) (h2 : ¬ c1 → zT X d M Q k n pc2 ls st' L μ) : zT X d M Q k n pc ls st L μ := by
  intro ⟨⟨p, l, e, R, s⟩, ⟨m, args, below, meth, c⟩, ⟨b, oa, D, ca⟩, ⟨Z, mc, ms⟩⟩ G H locs cells slots lsM hk hn hR hS hL
  exact hw p l e R s m args below meth c b oa D ca Z mc ms G H locs cells slots lsM (fun q => h1 q ((p, l, e, R, s), (m, args, below, meth, c), (b, oa, D, ca), (Z, mc, ms)) G H locs cells slots lsM hk hn hR hS hL) (fun q => h2 q ((p, l, e, R, s), (m, args, below, meth, c), (b, oa, D, ca), (Z, mc, ms)) G H locs cells slots lsM hk hn hR hS hL)
theorem z_cd {c : Bool} {A : Prop} (h : bif c then A else False) : c = true ∧ A := by cases c with
  | true => exact ⟨rfl, h⟩
  | false => exact h.elim
def o_con (v : Value) (w : Nat) : zOp := fun _ _ K _ k n pc ls st L μ => K k n (pc + w) ls (v :: st) L μ
theorem ok_iconst {M : zMD} {pc : Nat} {i : Int} {v : Int32} (hd : decode M.2.1 pc = .ok (.iconst i, 1)) (hv : Int32.ofInt i = v) : zOk M pc (o_con (.int v) 1) := fun _ _ _ _ _ _ _ _ _ h => z_go (fun _ _ _ _ _ _ _ _ _ _ _ _ _ _ _ _ _ G _ _ _ _ _ _ _ _ _ _ w => lv_iconst G.1.1 G.1.2.1 hd hv w) h
theorem ok_bipush {M : zMD} {pc : Nat} {i : Int} {v : Int32} (hd : decode M.2.1 pc = .ok (.bipush i, 2)) (hv : (Int8.ofInt i).toInt32 = v) : zOk M pc (o_con (.int v) 2) := fun _ _ _ _ _ _ _ _ _ h => z_go (fun _ _ _ _ _ _ _ _ _ _ _ _ _ _ _ _ _ G _ _ _ _ _ _ _ _ _ _ w => lv_bipush G.1.1 G.1.2.1 hd hv w) h
theorem ok_sipush {M : zMD} {pc : Nat} {i : Int} {v : Int32} (hd : decode M.2.1 pc = .ok (.sipush i, 3)) (hv : (Int16.ofInt i).toInt32 = v) : zOk M pc (o_con (.int v) 3) := fun _ _ _ _ _ _ _ _ _ h => z_go (fun _ _ _ _ _ _ _ _ _ _ _ _ _ _ _ _ _ G _ _ _ _ _ _ _ _ _ _ w => lv_sipush G.1.1 G.1.2.1 hd hv w) h
theorem ok_lconst {M : zMD} {pc : Nat} {i : Fin 2} {v : Int64} (hd : decode M.2.1 pc = .ok (.lconst i, 1)) (hv : Int64.ofNat (i : Nat) = v) : zOk M pc (o_con (.long v) 1) := fun _ _ _ _ _ _ _ _ _ h => z_go (fun _ _ _ _ _ _ _ _ _ _ _ _ _ _ _ _ _ G _ _ _ _ _ _ _ _ _ _ w => lv_lconst G.1.1 G.1.2.1 hd hv w) h
theorem ok_ldc {M : zMD} {pc idx : Nat} {v : Int32} (hd : decode M.2.1 pc = .ok (.ldc idx, 2)) (hc : Jvm.Cond.constant M.1.cls idx v ∈ tbG) : zOk M pc (o_con (.int v) 2) := fun _ _ _ _ _ _ _ _ _ h => z_go (fun _ _ _ _ _ _ _ _ _ _ _ _ _ _ _ _ _ G _ _ _ _ _ _ _ _ _ _ w => lv_ldc G.1.1 G.1.2.1 G.1.2.2.2.2.1 (G.1.2.2.2.2.2.1 _ hc) hd w) h
theorem ok_ldc2 {M : zMD} {pc idx : Nat} {v : Int64} (hd : decode M.2.1 pc = .ok (.ldc2_w idx, 3)) (hc : Jvm.Cond.constantLong M.1.cls idx v ∈ tbG) : zOk M pc (o_con (.long v) 3) := fun _ _ _ _ _ _ _ _ _ h => z_go (fun _ _ _ _ _ _ _ _ _ _ _ _ _ _ _ _ _ G _ _ _ _ _ _ _ _ _ _ w => lv_ldc2 G.1.1 G.1.2.1 G.1.2.2.2.2.1 (G.1.2.2.2.2.2.1 _ hc) hd w) h
def o_goto (t : Nat) : zOp := fun _ _ K _ k n _ ls st L μ => K k n t ls st L μ
theorem ok_goto {M : zMD} {pc t : Nat} {off : Int} (hd : decode M.2.1 pc = .ok (.goto off, 3)) (ht : (pc : Int) + off = (t : Int)) : zOk M pc (o_goto t) := fun _ _ _ _ _ _ _ _ _ h => z_go (fun _ _ _ _ _ _ _ _ _ _ _ _ _ _ _ _ _ G _ _ _ _ _ _ _ _ _ _ w => lv_goto G.1.1 G.1.2.1 hd ht w) h
/-- a local is read -/
def o_ldi (i w : Nat) : zOp := fun _ _ K _ k n pc ls st L μ => match ls[i]? with
  | some (some (.int v)) => K k n (pc + w) ls (.int v :: st) L μ
  | _ => False
def o_ldl (i w : Nat) : zOp := fun _ _ K _ k n pc ls st L μ => match ls[i]? with
  | some (some (.long v)) => K k n (pc + w) ls (.long v :: st) L μ
  | _ => False
def o_lda (i w : Nat) : zOp := fun _ _ K _ k n pc ls st L μ => match ls[i]? with
  | some (some (.ref v)) => K k n (pc + w) ls (.ref v :: st) L μ
  | _ => False
theorem ok_iload_n {M : zMD} {pc : Nat} {i : Fin 4} (hd : decode M.2.1 pc = .ok (.iload_n i, 1)) : zOk M pc (o_ldi i 1) := fun _ _ _ _ _ ls _ _ _ h => by
  unfold o_ldi at h
  split at h
  · rename_i hv
    exact z_go (fun _ _ _ _ _ _ _ _ _ _ _ _ _ _ _ _ _ G _ _ _ _ _ _ _ _ _ hL w => lv_iload_n G.1.1 G.1.2.1 hd rfl (hL.2.2.2 _ _ hv) w) h
  · exact h.elim
theorem ok_iload {M : zMD} {pc i : Nat} (hd : decode M.2.1 pc = .ok (.iload i, 2)) : zOk M pc (o_ldi i 2) := fun _ _ _ _ _ ls _ _ _ h => by
  unfold o_ldi at h
  split at h
  · rename_i hv
    exact z_go (fun _ _ _ _ _ _ _ _ _ _ _ _ _ _ _ _ _ G _ _ _ _ _ _ _ _ _ hL w => lv_iload G.1.1 G.1.2.1 hd (hL.2.2.2 _ _ hv) w) h
  · exact h.elim
theorem ok_lload_n {M : zMD} {pc : Nat} {i : Fin 4} (hd : decode M.2.1 pc = .ok (.lload_n i, 1)) : zOk M pc (o_ldl i 1) := fun _ _ _ _ _ ls _ _ _ h => by
  unfold o_ldl at h
  split at h
  · rename_i hv
    exact z_go (fun _ _ _ _ _ _ _ _ _ _ _ _ _ _ _ _ _ G _ _ _ _ _ _ _ _ _ hL w => lv_lload_n G.1.1 G.1.2.1 hd rfl (hL.2.2.2 _ _ hv) w) h
  · exact h.elim
theorem ok_lload {M : zMD} {pc i : Nat} (hd : decode M.2.1 pc = .ok (.lload i, 2)) : zOk M pc (o_ldl i 2) := fun _ _ _ _ _ ls _ _ _ h => by
  unfold o_ldl at h
  split at h
  · rename_i hv
    exact z_go (fun _ _ _ _ _ _ _ _ _ _ _ _ _ _ _ _ _ G _ _ _ _ _ _ _ _ _ hL w => lv_lload G.1.1 G.1.2.1 hd (hL.2.2.2 _ _ hv) w) h
  · exact h.elim
theorem ok_aload_n {M : zMD} {pc : Nat} {i : Fin 4} (hd : decode M.2.1 pc = .ok (.aload_n i, 1)) : zOk M pc (o_lda i 1) := fun _ _ _ _ _ ls _ _ _ h => by
  unfold o_lda at h
  split at h
  · rename_i hv
    exact z_go (fun _ _ _ _ _ _ _ _ _ _ _ _ _ _ _ _ _ G _ _ _ _ _ _ _ _ _ hL w => lv_aload_n G.1.1 G.1.2.1 hd rfl (hL.2.2.2 _ _ hv) w) h
  · exact h.elim
theorem ok_aload {M : zMD} {pc i : Nat} (hd : decode M.2.1 pc = .ok (.aload i, 2)) : zOk M pc (o_lda i 2) := fun _ _ _ _ _ ls _ _ _ h => by
  unfold o_lda at h
  split at h
  · rename_i hv
    exact z_go (fun _ _ _ _ _ _ _ _ _ _ _ _ _ _ _ _ _ G _ _ _ _ _ _ _ _ _ hL w => lv_aload G.1.1 G.1.2.1 hd (hL.2.2.2 _ _ hv) w) h
  · exact h.elim
/-- two ints, one int -/
def o_ii (f : Int32 → Int32 → Int32) : zOp := fun _ _ K _ k n pc ls st L μ => match st with
  | .int y :: .int x :: st' => K k n (pc + 1) ls (.int (f x y) :: st') L μ
  | _ => False
def o_ll (f : Int64 → Int64 → Int64) : zOp := fun _ _ K _ k n pc ls st L μ => match st with
  | .long y :: .long x :: st' => K k n (pc + 1) ls (.long (f x y) :: st') L μ
  | _ => False
def o_i1 (f : Int32 → Int32) : zOp := fun _ _ K _ k n pc ls st L μ => match st with
  | .int x :: st' => K k n (pc + 1) ls (.int (f x) :: st') L μ
  | _ => False
theorem ok_iadd {M : zMD} {pc : Nat} (hd : decode M.2.1 pc = .ok (.iadd, 1)) : zOk M pc (o_ii fun x y => x + y) := fun _ _ _ _ _ _ st _ _ h => match st, h with
  | .int _ :: .int _ :: _, h => z_go (fun _ _ _ _ _ _ _ _ _ _ _ _ _ _ _ _ _ G _ _ _ _ _ _ _ _ _ _ w => lv_iadd G.1.1 G.1.2.1 hd w) h
theorem ok_isub {M : zMD} {pc : Nat} (hd : decode M.2.1 pc = .ok (.isub, 1)) : zOk M pc (o_ii fun x y => x - y) := fun _ _ _ _ _ _ st _ _ h => match st, h with
  | .int _ :: .int _ :: _, h => z_go (fun _ _ _ _ _ _ _ _ _ _ _ _ _ _ _ _ _ G _ _ _ _ _ _ _ _ _ _ w => lv_isub G.1.1 G.1.2.1 hd w) h
theorem ok_imul {M : zMD} {pc : Nat} (hd : decode M.2.1 pc = .ok (.imul, 1)) : zOk M pc (o_ii fun x y => x * y) := fun _ _ _ _ _ _ st _ _ h => match st, h with
  | .int _ :: .int _ :: _, h => z_go (fun _ _ _ _ _ _ _ _ _ _ _ _ _ _ _ _ _ G _ _ _ _ _ _ _ _ _ _ w => lv_imul G.1.1 G.1.2.1 hd w) h
theorem ok_iand {M : zMD} {pc : Nat} (hd : decode M.2.1 pc = .ok (.iand, 1)) : zOk M pc (o_ii fun x y => x &&& y) := fun _ _ _ _ _ _ st _ _ h => match st, h with
  | .int _ :: .int _ :: _, h => z_go (fun _ _ _ _ _ _ _ _ _ _ _ _ _ _ _ _ _ G _ _ _ _ _ _ _ _ _ _ w => lv_iand G.1.1 G.1.2.1 hd w) h
theorem ok_ior {M : zMD} {pc : Nat} (hd : decode M.2.1 pc = .ok (.ior, 1)) : zOk M pc (o_ii fun x y => x ||| y) := fun _ _ _ _ _ _ st _ _ h => match st, h with
  | .int _ :: .int _ :: _, h => z_go (fun _ _ _ _ _ _ _ _ _ _ _ _ _ _ _ _ _ G _ _ _ _ _ _ _ _ _ _ w => lv_ior G.1.1 G.1.2.1 hd w) h
theorem ok_ixor {M : zMD} {pc : Nat} (hd : decode M.2.1 pc = .ok (.ixor, 1)) : zOk M pc (o_ii fun x y => x ^^^ y) := fun _ _ _ _ _ _ st _ _ h => match st, h with
  | .int _ :: .int _ :: _, h => z_go (fun _ _ _ _ _ _ _ _ _ _ _ _ _ _ _ _ _ G _ _ _ _ _ _ _ _ _ _ w => lv_ixor G.1.1 G.1.2.1 hd w) h
theorem ok_ishl {M : zMD} {pc : Nat} (hd : decode M.2.1 pc = .ok (.ishl, 1)) : zOk M pc (o_ii fun x y => x <<< (y &&& 31)) := fun _ _ _ _ _ _ st _ _ h => match st, h with
  | .int _ :: .int _ :: _, h => z_go (fun _ _ _ _ _ _ _ _ _ _ _ _ _ _ _ _ _ G _ _ _ _ _ _ _ _ _ _ w => lv_ishl G.1.1 G.1.2.1 hd w) h
theorem ok_ishr {M : zMD} {pc : Nat} (hd : decode M.2.1 pc = .ok (.ishr, 1)) : zOk M pc (o_ii fun x y => x >>> (y &&& 31)) := fun _ _ _ _ _ _ st _ _ h => match st, h with
  | .int _ :: .int _ :: _, h => z_go (fun _ _ _ _ _ _ _ _ _ _ _ _ _ _ _ _ _ G _ _ _ _ _ _ _ _ _ _ w => lv_ishr G.1.1 G.1.2.1 hd w) h
theorem ok_iushr {M : zMD} {pc : Nat} (hd : decode M.2.1 pc = .ok (.iushr, 1)) : zOk M pc (o_ii fun x y => (x.toUInt32 >>> (y.toUInt32 &&& Int32.toUInt32 31)).toInt32) := fun _ _ _ _ _ _ st _ _ h => match st, h with
  | .int _ :: .int _ :: _, h => z_go (fun _ _ _ _ _ _ _ _ _ _ _ _ _ _ _ _ _ G _ _ _ _ _ _ _ _ _ _ w => lv_iushr G.1.1 G.1.2.1 hd rfl w) h
theorem ok_ladd {M : zMD} {pc : Nat} (hd : decode M.2.1 pc = .ok (.ladd, 1)) : zOk M pc (o_ll fun x y => x + y) := fun _ _ _ _ _ _ st _ _ h => match st, h with
  | .long _ :: .long _ :: _, h => z_go (fun _ _ _ _ _ _ _ _ _ _ _ _ _ _ _ _ _ G _ _ _ _ _ _ _ _ _ _ w => lv_ladd G.1.1 G.1.2.1 hd w) h
theorem ok_lsub {M : zMD} {pc : Nat} (hd : decode M.2.1 pc = .ok (.lsub, 1)) : zOk M pc (o_ll fun x y => x - y) := fun _ _ _ _ _ _ st _ _ h => match st, h with
  | .long _ :: .long _ :: _, h => z_go (fun _ _ _ _ _ _ _ _ _ _ _ _ _ _ _ _ _ G _ _ _ _ _ _ _ _ _ _ w => lv_lsub G.1.1 G.1.2.1 hd w) h
theorem ok_lmul {M : zMD} {pc : Nat} (hd : decode M.2.1 pc = .ok (.lmul, 1)) : zOk M pc (o_ll fun x y => x * y) := fun _ _ _ _ _ _ st _ _ h => match st, h with
  | .long _ :: .long _ :: _, h => z_go (fun _ _ _ _ _ _ _ _ _ _ _ _ _ _ _ _ _ G _ _ _ _ _ _ _ _ _ _ w => lv_lmul G.1.1 G.1.2.1 hd w) h
theorem ok_ineg {M : zMD} {pc : Nat} (hd : decode M.2.1 pc = .ok (.ineg, 1)) : zOk M pc (o_i1 fun x => -x) := fun _ _ _ _ _ _ st _ _ h => match st, h with
  | .int _ :: _, h => z_go (fun _ _ _ _ _ _ _ _ _ _ _ _ _ _ _ _ _ G _ _ _ _ _ _ _ _ _ _ w => lv_ineg G.1.1 G.1.2.1 hd w) h
theorem ok_i2b {M : zMD} {pc : Nat} (hd : decode M.2.1 pc = .ok (.i2b, 1)) : zOk M pc (o_i1 fun x => x.toInt8.toInt32) := fun _ _ _ _ _ _ st _ _ h => match st, h with
  | .int _ :: _, h => z_go (fun _ _ _ _ _ _ _ _ _ _ _ _ _ _ _ _ _ G _ _ _ _ _ _ _ _ _ _ w => lv_i2b G.1.1 G.1.2.1 hd rfl w) h
theorem ok_i2s {M : zMD} {pc : Nat} (hd : decode M.2.1 pc = .ok (.i2s, 1)) : zOk M pc (o_i1 fun x => x.toInt16.toInt32) := fun _ _ _ _ _ _ st _ _ h => match st, h with
  | .int _ :: _, h => z_go (fun _ _ _ _ _ _ _ _ _ _ _ _ _ _ _ _ _ G _ _ _ _ _ _ _ _ _ _ w => lv_i2s G.1.1 G.1.2.1 hd rfl w) h
theorem ok_i2c {M : zMD} {pc : Nat} (hd : decode M.2.1 pc = .ok (.i2c, 1)) : zOk M pc (o_i1 fun x => (x.toUInt32 % 65536).toInt32) := fun _ _ _ _ _ _ st _ _ h => match st, h with
  | .int _ :: _, h => z_go (fun _ _ _ _ _ _ _ _ _ _ _ _ _ _ _ _ _ G _ _ _ _ _ _ _ _ _ _ w => lv_i2c G.1.1 G.1.2.1 hd rfl w) h
def o_iid (f : Int32 → Int32 → Int32) : zOp := fun _ _ K _ k n pc ls st L μ => match st with
  | .int y :: .int x :: st' => ¬ y = 0 ∧ K k n (pc + 1) ls (.int (f x y) :: st') L μ
  | _ => False
def o_lld (f : Int64 → Int64 → Int64) : zOp := fun _ _ K _ k n pc ls st L μ => match st with
  | .long y :: .long x :: st' => ¬ y = 0 ∧ K k n (pc + 1) ls (.long (f x y) :: st') L μ
  | _ => False
theorem ok_idiv {M : zMD} {pc : Nat} (hd : decode M.2.1 pc = .ok (.idiv, 1)) : zOk M pc (o_iid fun x y => x / y) := fun _ _ _ _ _ _ st _ _ h => match st, h with
  | .int _ :: .int _ :: _, h => z_go (fun _ _ _ _ _ _ _ _ _ _ _ _ _ _ _ _ _ G _ _ _ _ _ _ _ _ _ _ w => lv_idiv G.1.1 G.1.2.1 hd h.1 w) h.2
theorem ok_irem {M : zMD} {pc : Nat} (hd : decode M.2.1 pc = .ok (.irem, 1)) : zOk M pc (o_iid fun x y => x - x / y * y) := fun _ _ _ _ _ _ st _ _ h => match st, h with
  | .int _ :: .int _ :: _, h => z_go (fun _ _ _ _ _ _ _ _ _ _ _ _ _ _ _ _ _ G _ _ _ _ _ _ _ _ _ _ w => lv_irem G.1.1 G.1.2.1 hd h.1 w) h.2
theorem ok_ldiv {M : zMD} {pc : Nat} (hd : decode M.2.1 pc = .ok (.ldiv, 1)) : zOk M pc (o_lld fun x y => x / y) := fun _ _ _ _ _ _ st _ _ h => match st, h with
  | .long _ :: .long _ :: _, h => z_go (fun _ _ _ _ _ _ _ _ _ _ _ _ _ _ _ _ _ G _ _ _ _ _ _ _ _ _ _ w => lv_ldiv G.1.1 G.1.2.1 hd h.1 w) h.2
theorem ok_lrem {M : zMD} {pc : Nat} (hd : decode M.2.1 pc = .ok (.lrem, 1)) : zOk M pc (o_lld fun x y => x - x / y * y) := fun _ _ _ _ _ _ st _ _ h => match st, h with
  | .long _ :: .long _ :: _, h => z_go (fun _ _ _ _ _ _ _ _ _ _ _ _ _ _ _ _ _ G _ _ _ _ _ _ _ _ _ _ w => lv_lrem G.1.1 G.1.2.1 hd h.1 w) h.2
def o_i2l : zOp := fun _ _ K _ k n pc ls st L μ => match st with
  | .int x :: st' => K k n (pc + 1) ls (.long x.toInt64 :: st') L μ
  | _ => False
theorem ok_i2l {M : zMD} {pc : Nat} (hd : decode M.2.1 pc = .ok (.i2l, 1)) : zOk M pc o_i2l := fun _ _ _ _ _ _ st _ _ h => match st, h with
  | .int _ :: _, h => z_go (fun _ _ _ _ _ _ _ _ _ _ _ _ _ _ _ _ _ G _ _ _ _ _ _ _ _ _ _ w => lv_i2l G.1.1 G.1.2.1 hd rfl w) h
def o_l2i : zOp := fun _ _ K _ k n pc ls st L μ => match st with
  | .long x :: st' => K k n (pc + 1) ls (.int x.toInt32 :: st') L μ
  | _ => False
theorem ok_l2i {M : zMD} {pc : Nat} (hd : decode M.2.1 pc = .ok (.l2i, 1)) : zOk M pc o_l2i := fun _ _ _ _ _ _ st _ _ h => match st, h with
  | .long _ :: _, h => z_go (fun _ _ _ _ _ _ _ _ _ _ _ _ _ _ _ _ _ G _ _ _ _ _ _ _ _ _ _ w => lv_l2i G.1.1 G.1.2.1 hd rfl w) h
def o_lcmp : zOp := fun _ _ K _ k n pc ls st L μ => match st with
  | .long y :: .long x :: st' => K k n (pc + 1) ls (.int (lg_cmp x y) :: st') L μ
  | _ => False
theorem ok_lcmp {M : zMD} {pc : Nat} (hd : decode M.2.1 pc = .ok (.lcmp, 1)) : zOk M pc o_lcmp := fun _ _ _ _ _ _ st _ _ h => match st, h with
  | .long _ :: .long _ :: _, h => z_go (fun _ _ _ _ _ _ _ _ _ _ _ _ _ _ _ _ _ G _ _ _ _ _ _ _ _ _ _ w => W.lcmp G.1.1 G.1.2.1 hd w) h
/-- dup of a value of one word; pop -/
def z_c1 : Value → Bool
  | .long _ => false
  | .double _ => false
  | _ => true
theorem z_c1_cat {v : Value} (h : z_c1 v = true) : v.category = 1 := by cases v <;> first | rfl | cases h
def o_dup : zOp := fun _ _ K _ k n pc ls st L μ => match st with
  | v :: st' => bif z_c1 v then K k n (pc + 1) ls (v :: v :: st') L μ else False
  | _ => False
theorem ok_dup {M : zMD} {pc : Nat} (hd : decode M.2.1 pc = .ok (.dup, 1)) : zOk M pc o_dup := fun _ _ _ _ _ _ st _ _ h => match st, h with
  | v :: _, h => z_go (fun _ _ _ _ _ _ _ _ _ _ b oa _ _ _ _ _ G _ _ _ _ _ _ _ _ _ _ w => lv_dup G.1.1 G.1.2.1 hd ((z_tr_cat b oa v).trans (z_c1_cat (z_cd h).1)) w) (z_cd h).2
def o_pop : zOp := fun _ _ K _ k n pc ls st L μ => match st with
  | v :: st' => bif z_c1 v then K k n (pc + 1) ls st' L μ else False
  | _ => False
theorem ok_pop {M : zMD} {pc : Nat} (hd : decode M.2.1 pc = .ok (.pop, 1)) : zOk M pc o_pop := fun _ _ _ _ _ _ st _ _ h => match st, h with
  | v :: _, h => z_go (fun _ _ _ _ _ _ _ _ _ _ b oa _ _ _ _ _ G _ _ _ _ _ _ _ _ _ _ w => lv_pop G.1.1 G.1.2.1 hd ((z_tr_cat b oa v).trans (z_c1_cat (z_cd h).1)) w) (z_cd h).2
/-- branches: the condition, the target -/
def o_if (c : Int32 → Prop) (t : Nat) : zOp := fun _ _ K _ k n pc ls st L μ => match st with
  | .int x :: st' => (c x → K k n t ls st' L μ) ∧ (¬ c x → K k n (pc + 3) ls st' L μ)
  | _ => False
def o_ic (c : Int32 → Int32 → Prop) (t : Nat) : zOp := fun _ _ K _ k n pc ls st L μ => match st with
  | .int y :: .int x :: st' => (c x y → K k n t ls st' L μ) ∧ (¬ c x y → K k n (pc + 3) ls st' L μ)
  | _ => False
theorem ok_if_eq {M : zMD} {pc t : Nat} {off : Int} (hd : decode M.2.1 pc = .ok (.ifCond .eq off, 3)) (ht : (pc : Int) + off = (t : Int)) : zOk M pc (o_if (fun x => x = 0) t) := fun _ _ _ _ _ _ st _ _ h => match st, h with
  | .int _ :: _, h => z_go2 (fun _ _ _ _ _ _ _ _ _ _ _ _ _ _ _ _ _ G _ _ _ _ _ a c => lv_if_eq G.1.1 G.1.2.1 hd ht a c) h.1 h.2
theorem ok_ic_eq {M : zMD} {pc t : Nat} {off : Int} (hd : decode M.2.1 pc = .ok (.if_icmp .eq off, 3)) (ht : (pc : Int) + off = (t : Int)) : zOk M pc (o_ic (fun x y => x = y) t) := fun _ _ _ _ _ _ st _ _ h => match st, h with
  | .int _ :: .int _ :: _, h => z_go2 (fun _ _ _ _ _ _ _ _ _ _ _ _ _ _ _ _ _ G _ _ _ _ _ a c => lv_icmp_eq G.1.1 G.1.2.1 hd ht a c) h.1 h.2
theorem ok_if_lt {M : zMD} {pc t : Nat} {off : Int} (hd : decode M.2.1 pc = .ok (.ifCond .lt off, 3)) (ht : (pc : Int) + off = (t : Int)) : zOk M pc (o_if (fun x => x < 0) t) := fun _ _ _ _ _ _ st _ _ h => match st, h with
  | .int _ :: _, h => z_go2 (fun _ _ _ _ _ _ _ _ _ _ _ _ _ _ _ _ _ G _ _ _ _ _ a c => lv_if_lt G.1.1 G.1.2.1 hd ht a c) h.1 h.2
theorem ok_ic_lt {M : zMD} {pc t : Nat} {off : Int} (hd : decode M.2.1 pc = .ok (.if_icmp .lt off, 3)) (ht : (pc : Int) + off = (t : Int)) : zOk M pc (o_ic (fun x y => x < y) t) := fun _ _ _ _ _ _ st _ _ h => match st, h with
  | .int _ :: .int _ :: _, h => z_go2 (fun _ _ _ _ _ _ _ _ _ _ _ _ _ _ _ _ _ G _ _ _ _ _ a c => lv_icmp_lt G.1.1 G.1.2.1 hd ht a c) h.1 h.2
theorem ok_if_ge {M : zMD} {pc t : Nat} {off : Int} (hd : decode M.2.1 pc = .ok (.ifCond .ge off, 3)) (ht : (pc : Int) + off = (t : Int)) : zOk M pc (o_if (fun x => 0 ≤ x) t) := fun _ _ _ _ _ _ st _ _ h => match st, h with
  | .int _ :: _, h => z_go2 (fun _ _ _ _ _ _ _ _ _ _ _ _ _ _ _ _ _ G _ _ _ _ _ a c => lv_if_ge G.1.1 G.1.2.1 hd ht a c) h.1 h.2
theorem ok_ic_ge {M : zMD} {pc t : Nat} {off : Int} (hd : decode M.2.1 pc = .ok (.if_icmp .ge off, 3)) (ht : (pc : Int) + off = (t : Int)) : zOk M pc (o_ic (fun x y => y ≤ x) t) := fun _ _ _ _ _ _ st _ _ h => match st, h with
  | .int _ :: .int _ :: _, h => z_go2 (fun _ _ _ _ _ _ _ _ _ _ _ _ _ _ _ _ _ G _ _ _ _ _ a c => lv_icmp_ge G.1.1 G.1.2.1 hd ht a c) h.1 h.2
theorem ok_if_gt {M : zMD} {pc t : Nat} {off : Int} (hd : decode M.2.1 pc = .ok (.ifCond .gt off, 3)) (ht : (pc : Int) + off = (t : Int)) : zOk M pc (o_if (fun x => 0 < x) t) := fun _ _ _ _ _ _ st _ _ h => match st, h with
  | .int _ :: _, h => z_go2 (fun _ _ _ _ _ _ _ _ _ _ _ _ _ _ _ _ _ G _ _ _ _ _ a c => lv_if_gt G.1.1 G.1.2.1 hd ht a c) h.1 h.2
theorem ok_ic_gt {M : zMD} {pc t : Nat} {off : Int} (hd : decode M.2.1 pc = .ok (.if_icmp .gt off, 3)) (ht : (pc : Int) + off = (t : Int)) : zOk M pc (o_ic (fun x y => y < x) t) := fun _ _ _ _ _ _ st _ _ h => match st, h with
  | .int _ :: .int _ :: _, h => z_go2 (fun _ _ _ _ _ _ _ _ _ _ _ _ _ _ _ _ _ G _ _ _ _ _ a c => lv_icmp_gt G.1.1 G.1.2.1 hd ht a c) h.1 h.2
theorem ok_if_le {M : zMD} {pc t : Nat} {off : Int} (hd : decode M.2.1 pc = .ok (.ifCond .le off, 3)) (ht : (pc : Int) + off = (t : Int)) : zOk M pc (o_if (fun x => x ≤ 0) t) := fun _ _ _ _ _ _ st _ _ h => match st, h with
  | .int _ :: _, h => z_go2 (fun _ _ _ _ _ _ _ _ _ _ _ _ _ _ _ _ _ G _ _ _ _ _ a c => lv_if_le G.1.1 G.1.2.1 hd ht a c) h.1 h.2
theorem ok_ic_le {M : zMD} {pc t : Nat} {off : Int} (hd : decode M.2.1 pc = .ok (.if_icmp .le off, 3)) (ht : (pc : Int) + off = (t : Int)) : zOk M pc (o_ic (fun x y => x ≤ y) t) := fun _ _ _ _ _ _ st _ _ h => match st, h with
  | .int _ :: .int _ :: _, h => z_go2 (fun _ _ _ _ _ _ _ _ _ _ _ _ _ _ _ _ _ G _ _ _ _ _ a c => lv_icmp_le G.1.1 G.1.2.1 hd ht a c) h.1 h.2
def o_ifn (t : Nat) : zOp := fun _ _ K _ k n pc ls st L μ => match st with
  | .int x :: st' => (x = 0 → K k n (pc + 3) ls st' L μ) ∧ (¬ x = 0 → K k n t ls st' L μ)
  | _ => False
def o_icn (t : Nat) : zOp := fun _ _ K _ k n pc ls st L μ => match st with
  | .int y :: .int x :: st' => (x = y → K k n (pc + 3) ls st' L μ) ∧ (¬ x = y → K k n t ls st' L μ)
  | _ => False
theorem ok_if_ne {M : zMD} {pc t : Nat} {off : Int} (hd : decode M.2.1 pc = .ok (.ifCond .ne off, 3)) (ht : (pc : Int) + off = (t : Int)) : zOk M pc (o_ifn t) := fun _ _ _ _ _ _ st _ _ h => match st, h with
  | .int _ :: _, h => z_go2 (fun _ _ _ _ _ _ _ _ _ _ _ _ _ _ _ _ _ G _ _ _ _ _ a c => lv_if_ne G.1.1 G.1.2.1 hd ht c a) h.1 h.2
theorem ok_ic_ne {M : zMD} {pc t : Nat} {off : Int} (hd : decode M.2.1 pc = .ok (.if_icmp .ne off, 3)) (ht : (pc : Int) + off = (t : Int)) : zOk M pc (o_icn t) := fun _ _ _ _ _ _ st _ _ h => match st, h with
  | .int _ :: .int _ :: _, h => z_go2 (fun _ _ _ _ _ _ _ _ _ _ _ _ _ _ _ _ _ G _ _ _ _ _ a c => lv_icmp_ne G.1.1 G.1.2.1 hd ht c a) h.1 h.2
