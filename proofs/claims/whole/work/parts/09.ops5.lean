/-! arrays -/
theorem z_ent_i {b : Nat} {oa : Nat → Nat} {ca : Nat → ClassId} {t n a : Nat} {μ : zMem} (h1 : ¬ t < 10) (h2 : t < 20) : z_ent b oa ca (t, n) μ a = .inl (ca t, n, .inl (μ.1 a)) := (if_neg h1).trans (if_pos h2)
theorem z_ent_r {b : Nat} {oa : Nat → Nat} {ca : Nat → ClassId} {t n a : Nat} {μ : zMem} (h : ¬ t < 20) : z_ent b oa ca (t, n) μ a = .inl (ca t, n, .inr (.inr (.inr (.inr (fun i => (μ.2.2 a i).map (z_ta b oa)))))) := (if_neg (by show ¬ t < 10; omega)).trans (if_neg h)
theorem z_up_a {α : Type} (f : Nat → Nat → α) (a k : Nat) (v : α) : z_up f a k v a = fun j => if j = k then v else f a j := by
  funext j
  unfold z_up
  by_cases h : j = k <;> simp [h]
/-- within an array of kind t -/
def z_in (t : Nat) (L : List zSh) (a : Nat) (i : Int32) : Prop := a < 1000000 ∧ ∃ n, L[a]? = some (t, n) ∧ vp_in i n
def o_iald : zOp := fun _ _ K _ k n pc ls st L μ => match st with
  | .int i :: .ref a :: st' => z_in 10 L a i ∧ K k n (pc + 1) ls (.int (μ.1 a i.toNatClampNeg) :: st') L μ
  | _ => False
theorem ok_iald {M : zMD} {pc : Nat} (hd : decode M.2.1 pc = .ok (.iaload, 1)) : zOk M pc o_iald := fun X d Q k n ls st L μ h => match st, h with
  | .int i :: .ref a :: st', h => by
    obtain ⟨⟨ha, N, hw, hi⟩, h⟩ := h
    refine z_go (fun p l e R s m args below meth c b oa D ca Z mc ms G H locs cells slots lsM hk hn hR hS hL w => ?_) h
    show W p l e R s m args below meth c H locs cells slots Z (F0 m pc lsM (.int i :: .ref (z_ta b oa a) :: _))
    rw [z_ta_in ha]
    exact va_iald G.1.1 G.1.2.1 G.2.1.1 hR.1 a 0 ((z_ws_get hw).trans (congrArg some (congrArg (Prod.mk (b + a)) (z_ent_i (by omega) (by omega))))) rfl hi hd w
def o_zald : zOp := fun _ _ K _ k n pc ls st L μ => match st with
  | .int i :: .ref a :: st' => z_in 11 L a i ∧ K k n (pc + 1) ls (.int (μ.1 a i.toNatClampNeg) :: st') L μ
  | _ => False
theorem ok_zald {M : zMD} {pc : Nat} (hd : decode M.2.1 pc = .ok (.baload, 1)) : zOk M pc o_zald := fun X d Q k n ls st L μ h => match st, h with
  | .int i :: .ref a :: st', h => by
    obtain ⟨⟨ha, N, hw, hi⟩, h⟩ := h
    refine z_go (fun p l e R s m args below meth c b oa D ca Z mc ms G H locs cells slots lsM hk hn hR hS hL w => ?_) h
    show W p l e R s m args below meth c H locs cells slots Z (F0 m pc lsM (.int i :: .ref (z_ta b oa a) :: _))
    rw [z_ta_in ha]
    exact va_zald G.1.1 G.1.2.1 G.2.1.1 hR.1 a 1 ((z_ws_get hw).trans (congrArg some (congrArg (Prod.mk (b + a)) (z_ent_i (by omega) (by omega))))) rfl hi hd w
/-- the place of an array's kind in z_tys -/
def z_tp (t : Nat) : Nat := if t = 10 then 0 else if t = 11 then 1 else if t = 22 then 2 else if t = 23 then 3 else 4
def z_tt (t : Nat) : FieldType := if t = 10 then .int else if t = 11 then .boolean else if t = 22 then .object RX2 else if t = 23 then .object RX3 else .object RX5
theorem z_tp_ok {ca : Nat → ClassId} {t : Nat} (h : t = 10 ∨ t = 11 ∨ t = 22 ∨ t = 23 ∨ t = 25) : (z_tys ca)[z_tp t]? = some (ca t, z_tt t) := by
  rcases h with rfl | rfl | rfl | rfl | rfl <;> rfl
def o_aald (t : Nat) : zOp := fun _ _ K _ k n pc ls st L μ => match st with
  | .int i :: .ref a :: st' => z_in t L a i ∧ K k n (pc + 1) ls (z_rv (μ.2.2 a i.toNatClampNeg) :: st') L μ
  | _ => False
theorem ok_aald {M : zMD} {pc t : Nat} (ht : t = 22 ∨ t = 23 ∨ t = 25) (hd : decode M.2.1 pc = .ok (.aaload, 1)) : zOk M pc (o_aald t) := fun X d Q k n ls st L μ h => match st, h with
  | .int i :: .ref a :: st', h => by
    obtain ⟨⟨ha, N, hw, hi⟩, h⟩ := h
    refine z_go (fun p l e R s m args below meth c b oa D ca Z mc ms G H locs cells slots lsM hk hn hR hS hL w => ?_) h
    show W p l e R s m args below meth c H locs cells slots Z (F0 m pc lsM (.int i :: .ref (z_ta b oa a) :: _))
    rw [z_ta_in ha]
    rw [List.map_cons, z_tr_rv] at w
    rcases ht with rfl | rfl | rfl
    · exact va_aldq (C := RX2) G.1.1 G.1.2.1 G.2.1.1 hR.1 a 2 ((z_ws_get hw).trans (congrArg some (congrArg (Prod.mk (b + a)) (z_ent_r (by omega))))) rfl hi hd w
    · exact va_aldq (C := RX3) G.1.1 G.1.2.1 G.2.1.1 hR.1 a 3 ((z_ws_get hw).trans (congrArg some (congrArg (Prod.mk (b + a)) (z_ent_r (by omega))))) rfl hi hd w
    · exact va_aldq (C := RX5) G.1.1 G.1.2.1 G.2.1.1 hR.1 a 4 ((z_ws_get hw).trans (congrArg some (congrArg (Prod.mk (b + a)) (z_ent_r (by omega))))) rfl hi hd w
def o_alen (t : Nat) : zOp := fun _ _ K _ k n pc ls st L μ => match st with
  | .ref a :: st' => match L[a]? with
    | some (u, N) => (a < 1000000 ∧ u = t) ∧ K k n (pc + 1) ls (.int (Int32.ofNat N) :: st') L μ
    | none => False
  | _ => False
theorem ok_alen {M : zMD} {pc t : Nat} (ht : t = 10 ∨ t = 11 ∨ t = 22 ∨ t = 23 ∨ t = 25) (hd : decode M.2.1 pc = .ok (.arraylength, 1)) : zOk M pc (o_alen t) := fun X d Q k n ls st L μ h => match st, h with
  | .ref a :: st', h => by
    unfold o_alen at h
    dsimp only at h
    cases hw : L[a]? with
    | none => rw [hw] at h; exact h.elim
    | some q =>
      obtain ⟨u, N⟩ := q
      rw [hw] at h
      obtain ⟨⟨ha, rfl⟩, h2⟩ := h
      refine z_go (fun p l e R s m args below meth c b oa D ca Z mc ms G H locs cells slots lsM hk hn hR hS hL w => ?_) h2
      show W p l e R s m args below meth c H locs cells slots Z (F0 m pc lsM (.ref (z_ta b oa a) :: _))
      rw [z_ta_in ha]
      by_cases h20 : u < 20
      · exact va_alen G.1.1 G.1.2.1 G.2.1.1 hR.1 a (z_tp u) ((z_ws_get hw).trans (congrArg some (congrArg (Prod.mk (b + a)) (z_ent_i (by omega) h20)))) (z_tp_ok ht) rfl hd w
      · exact va_alen G.1.1 G.1.2.1 G.2.1.1 hR.1 a (z_tp u) ((z_ws_get hw).trans (congrArg some (congrArg (Prod.mk (b + a)) (z_ent_r h20)))) (z_tp_ok ht) rfl hd w
/-- a cell's new contents, by a row that writes it alone -/
theorem z_wr {M : zMD} {X : zXs} {d : Nat} {Q : zRQ} {k n pc pc' : Nat} {ls : zLs} {st st' : List Value} {L : List zSh} {μ μ' : zMem} {a : Nat} {sh : zSh} (hw : L[a]? = some sh) (hx : ∀ (x : Nat), x ≠ a → ∀ b oa ca s, z_ent b oa ca s μ' x = z_ent b oa ca s μ x)
    (hg : ∀ (p : Program) (l : Launch) (e : Env) (R : Room) (s : State) (m : MethodId) (args : Array Value) (below : List Frame) (meth : Method) (c : Code) (b : Nat) (oa : Nat → Nat) (D : va_G) (ca : Nat → ClassId) (Z : State → Prop) (mc ms : Nat), zGood X d ((p, l, e, R, s), (m, args, below, meth, c), (b, oa, D, ca), (Z, mc, ms)) M Q → ∀ (H : Heap) (locs : List Loc) (cells slots : Nat) (lsM : Array Slot), zRel b oa D ca L μ H →
      (∀ (H1 : Heap) (i : Nat), va_at D clT (b + a, z_ent b oa ca sh μ' a) H1 → H1.size = H.size → (∀ q : Nat, q ≠ b + a → H1[q]? = H[q]?) → W p l e R s m args below meth c H1 (locs ++ [⟨b + a, i⟩]) cells slots Z (F0 m pc' lsM (st'.map (z_tr b oa)))) → W p l e R s m args below meth c H locs cells slots Z (F0 m pc lsM (st.map (z_tr b oa))))
    (h : zT X d M Q k n pc' ls st' L μ') : zT X d M Q k n pc ls st L μ := by
  intro ⟨⟨p, l, e, R, s⟩, ⟨m, args, below, meth, c⟩, ⟨b, oa, D, ca⟩, ⟨Z, mc, ms⟩⟩ G H locs cells slots lsM hk hn hR hS hL
  refine hg p l e R s m args below meth c b oa D ca Z mc ms G H locs cells slots lsM hR fun H1 i hat hz hq => ?_
  have hP1 := hR.1.set z_ws_D (z_ws_get hw) hat hq
  rw [z_ws_set hw rfl (fun x q s => hx x q b oa ca s)] at hP1
  exact h ((p, l, e, R, s), (m, args, below, meth, c), (b, oa, D, ca), (Z, mc, ms)) G H1 _ cells slots lsM hk hn ⟨hP1, hz.trans hR.2⟩ (hS.put hz hq (Nat.le_add_right _ _)) hL
def o_iast : zOp := fun _ _ K _ k n pc ls st L μ => match st with
  | .int v :: .int i :: .ref a :: st' => z_in 10 L a i ∧ K k n (pc + 1) ls st' L (z_sI μ a i.toNatClampNeg v)
  | _ => False
theorem z_upd_I (μ : zMem) (a k : Nat) (v : Int32) : (z_sI μ a k v).1 a = upd (μ.1 a) k v := by
  show z_up μ.1 a k v a = _
  rw [z_up_a]
  rfl
theorem ok_iast {M : zMD} {pc : Nat} (hd : decode M.2.1 pc = .ok (.iastore, 1)) : zOk M pc o_iast := fun X d Q k n ls st L μ h => match st, h with
  | .int v :: .int i :: .ref a :: st', h => by
    obtain ⟨⟨ha, N, hw, hi⟩, h⟩ := h
    refine z_wr hw (fun x hx b oa ca s => z_ent_I x hx s) (fun p l e R s m args below meth c b oa D ca Z mc ms G H locs cells slots lsM hR w => ?_) h
    show W p l e R s m args below meth c H locs cells slots Z (F0 m pc lsM (.int v :: .int i :: .ref (z_ta b oa a) :: _))
    rw [z_ta_in ha]
    have he : va_at D clT _ H := hR.1 a _ ((z_ws_get hw).trans (congrArg some (congrArg (Prod.mk (b + a)) (z_ent_i (by omega) (by omega)))))
    refine W.iast G.1.1 G.1.2.1 he ((G.2.1.1.2 0 _ rfl).1 N (fun j => .int (μ.1 a j))) (fun q => by cases q) (by show ¬ (i < 0 ∨ (arrV _ _ _).slots.size ≤ _); rw [arrV_size]; exact hi) rfl rfl hd fun H1 e z oq => ?_
    refine w H1 _ ?_ z oq
    rw [z_ent_i (by omega) (by omega), z_upd_I]
    show H1[b + a]? = some (vp_cell _ _)
    rw [e]
    rw [vp_cell_i, vp_cell_i, arrV_store]
    congr 2
    funext q
    by_cases hq : q = i.toNatClampNeg
    · subst hq
      simp [updV, upd]
    · simp [updV, upd, hq]
def o_zast : zOp := fun _ _ K _ k n pc ls st L μ => match st with
  | .int v :: .int i :: .ref a :: st' => (z_in 11 L a i ∧ (v = 0 ∨ v = 1)) ∧ K k n (pc + 1) ls st' L (z_sI μ a i.toNatClampNeg v)
  | _ => False
theorem ok_zast {M : zMD} {pc : Nat} (hd : decode M.2.1 pc = .ok (.bastore, 1)) : zOk M pc o_zast := fun X d Q k n ls st L μ h => match st, h with
  | .int v :: .int i :: .ref a :: st', h => by
    obtain ⟨⟨⟨ha, N, hw, hi⟩, hv⟩, h⟩ := h
    refine z_wr hw (fun x hx b oa ca s => z_ent_I x hx s) (fun p l e R s m args below meth c b oa D ca Z mc ms G H locs cells slots lsM hR w => ?_) h
    show W p l e R s m args below meth c H locs cells slots Z (F0 m pc lsM (.int v :: .int i :: .ref (z_ta b oa a) :: _))
    rw [z_ta_in ha]
    have he : va_at D clT _ H := hR.1 a _ ((z_ws_get hw).trans (congrArg some (congrArg (Prod.mk (b + a)) (z_ent_i (by omega) (by omega)))))
    refine W.zast G.1.1 G.1.2.1 he ((G.2.1.1.2 1 _ rfl).1 N (fun j => .int (μ.1 a j))) (fun q => by cases q) (by show ¬ (i < 0 ∨ (arrV _ _ _).slots.size ≤ _); rw [arrV_size]; exact hi) rfl rfl hd fun H1 e z oq => ?_
    refine w H1 _ ?_ z oq
    rw [z_ent_i (by omega) (by omega), z_upd_I]
    show H1[b + a]? = some (vp_cell _ _)
    rw [e]
    rw [vp_cell_i, vp_cell_i, arrV_store]
    congr 2
    funext q
    have hnv : narrow .boolean (.int v) = .int v := by rcases hv with rfl | rfl <;> rfl
    by_cases hq : q = i.toNatClampNeg
    · subst hq
      simp [updV, upd, hnv]
      try rfl
    · simp [updV, upd, hq]
def o_aast (ci : Nat) : zOp := fun _ _ K _ k n pc ls st L μ => match st with
  | .ref v :: .int i :: .ref a :: st' => (z_in (20 + ci) L a i ∧ v < 1000000 ∧ ∃ w, L[v]? = some (ci, w)) ∧ K k n (pc + 1) ls st' L (z_sR μ a i.toNatClampNeg (some v))
  | _ => False
theorem z_upd_R (b : Nat) (oa : Nat → Nat) (μ : zMem) (a k : Nat) (v : Nat) : (fun i => ((z_sR μ a k (some v)).2.2 a i).map (z_ta b oa)) = va_up (fun i => (μ.2.2 a i).map (z_ta b oa)) k (some (z_ta b oa v)) := by
  funext i
  show (z_up μ.2.2 a k (some v) a i).map (z_ta b oa) = _
  rw [z_up_a]
  unfold va_up
  by_cases h : i = k <;> simp [h]
theorem ok_aast {M : zMD} {pc ci : Nat} (hci : ci = 2 ∨ ci = 3 ∨ ci = 5) (hd : decode M.2.1 pc = .ok (.aastore, 1)) : zOk M pc (o_aast ci) := fun X d Q k n ls st L μ h => match st, h with
  | .ref v :: .int i :: .ref a :: st', h => by
    obtain ⟨⟨⟨ha, N, hw, hi⟩, hv, w0, hwv⟩, h⟩ := h
    refine z_wr hw (fun x hx b oa ca s => z_ent_R x hx s) (fun p l e R s m args below meth c b oa D ca Z mc ms G H locs cells slots lsM hR w => ?_) h
    show W p l e R s m args below meth c H locs cells slots Z (F0 m pc lsM (.ref (z_ta b oa v) :: .int i :: .ref (z_ta b oa a) :: _))
    rw [z_ta_in ha]
    have hwq := hw
    have he : va_at D clT _ H := hR.1 a _ ((z_ws_get hw).trans (congrArg some (congrArg (Prod.mk (b + a)) (z_ent_r (by omega)))))
    have ht : (z_tys ca)[z_tp (20 + ci)]? = some (ca (20 + ci), .object (clT.getD ci (RX0, TX0, 0)).1) := by rcases hci with rfl | rfl | rfl <;> rfl
    have hc : clT[ci]? = some (clT.getD ci (RX0, TX0, 0)) := by rcases hci with rfl | rfl | rfl <;> rfl
    have hlt : i.toNatClampNeg < N := Nat.not_le.mp fun q => hi (Or.inr q)
    have h0 : ¬ i < 0 := fun q => hi (Or.inl q)
    have hev : va_at D clT _ H := hR.1 v _ ((z_ws_get hwv).trans (congrArg some (congrArg (Prod.mk (b + v)) (z_ent_o (by omega)))))
    obtain ⟨r', hr', cellV, g1, g2, g3, -⟩ := hev
    have hcls := (G.2.1.1.1 ci _ hc).2
    obtain ⟨kA, comp, k1, k2, k3, -⟩ := (G.2.1.1.2 _ _ ht).2
    have hcomp : comp = D.1 ci := Option.some.inj (k3.symm.trans hcls.1)
    subst hcomp
    obtain ⟨kC, hkC, -⟩ := hcls.2
    have g1 : H[b + v]? = some cellV := g1
    rw [z_ta_in hv]
    refine W.aast G.1.1 G.1.2.1 he (fun q h => by cases h) (fun h => by cases h) k1 k2 rfl hkC ⟨h0, by show _ < (arrV _ _ _).slots.size; rw [arrV_size]; exact hlt⟩ g1 (fun q h => by rw [g3] at h; cases h) (by rw [g2]; exact hkC) (by rw [g2]; exact va_assign hcls) rfl rfl hd fun H1 e z oq => ?_
    refine w H1 _ ?_ z oq
    rw [z_ent_r (by omega), z_upd_R]
    show H1[b + a]? = some (vp_cell _ _)
    rw [e]
    rw [vp_cell_q, vp_cell_q, arrV_store]
    congr 2
    funext q
    by_cases hq : q = i.toNatClampNeg
    · subst hq
      simp [updV, va_up, va_rf, z_ta_in hv]
    · simp [updV, va_up, hq]
theorem z_sub4 {a : Nat} (h1 : 1000000 ≤ a) (h2 : a < 1000004) : a - 1000000 < 4 := by omega
/-- the outer arrays -/
def o_oald : zOp := fun X _ K _ k n pc ls st L μ => match st with
  | .int i :: .ref a :: st' => ((1000000 ≤ a ∧ a < 1000004) ∧ vp_in i (z_on X (a - 1000000))) ∧ K k n (pc + 1) ls (.int (z_of X (a - 1000000) i.toNatClampNeg) :: st') L μ
  | _ => False
theorem z_ta_out {b : Nat} {oa : Nat → Nat} {a : Nat} (h : 1000000 ≤ a) : z_ta b oa a = oa (a - 1000000) := if_neg (by omega)
theorem ok_oald {M : zMD} {pc : Nat} (hd : decode M.2.1 pc = .ok (.iaload, 1)) : zOk M pc o_oald := fun X d Q k n ls st L μ h => match st, h with
  | .int i :: .ref a :: st', h => by
    obtain ⟨⟨⟨ha, ha2⟩, hi⟩, h⟩ := h
    refine z_go (fun p l e R s m args below meth c b oa D ca Z mc ms G H locs cells slots lsM hk hn hR hS hL w => ?_) h
    show W p l e R s m args below meth c H locs cells slots Z (F0 m pc lsM (.int i :: .ref (z_ta b oa a) :: _))
    rw [z_ta_out ha]
    obtain ⟨ho1, ho2⟩ := G.2.1.2.2.1.1 (a - 1000000) (z_sub4 ha ha2)
    exact va_sld G.1.1 G.1.2.1 ho2 (Nat.lt_of_lt_of_le ho1 G.2.1.2.2.2) (Nat.not_le.mpr ho1) hS hi hd w
def o_olen : zOp := fun X _ K _ k n pc ls st L μ => match st with
  | .ref a :: st' => (1000000 ≤ a ∧ a < 1000004) ∧ K k n (pc + 1) ls (.int (Int32.ofNat (z_on X (a - 1000000))) :: st') L μ
  | _ => False
theorem ok_olen {M : zMD} {pc : Nat} (hd : decode M.2.1 pc = .ok (.arraylength, 1)) : zOk M pc o_olen := fun X d Q k n ls st L μ h => match st, h with
  | .ref a :: st', h => by
    obtain ⟨⟨ha, ha2⟩, h⟩ := h
    refine z_go (fun p l e R s m args below meth c b oa D ca Z mc ms G H locs cells slots lsM hk hn hR hS hL w => ?_) h
    show W p l e R s m args below meth c H locs cells slots Z (F0 m pc lsM (.ref (z_ta b oa a) :: _))
    rw [z_ta_out ha]
    obtain ⟨ho1, ho2⟩ := G.2.1.2.2.1.1 (a - 1000000) (z_sub4 ha ha2)
    exact va_slen G.1.1 G.1.2.1 ho2 (Nat.lt_of_lt_of_le ho1 G.2.1.2.2.2) (Nat.not_le.mpr ho1) hS hd w
/-- static arrays: 0 LOWEST, 1 HIGHEST, 2 ABOVE -/
def o_gsta (j : Nat) : zOp := fun _ _ K _ k n pc ls st L μ => K k n (pc + 3) ls (.ref (1000000 + j) :: st) L μ
def z_sn (j : Nat) : String := if j = 0 then "LOWEST" else if j = 1 then "HIGHEST" else "ABOVE"
theorem z_sZ {b : Nat} {oa : Nat → Nat} {X : zXs} {U : State} {H : Heap} {j : Nat} (hj : j < 3) (h : zOut b oa X U H) : va_Z "ShadowTax" (z_sn j) "[I" (.ref (z_ta b oa (1000000 + j))) (fun q => b ≤ q) U H := by
  rw [z_ta_out (by omega)]
  match j, hj with
  | 0, _ => exact h.2.1
  | 1, _ => exact h.2.2.1
  | 2, _ => exact h.2.2.2.1
theorem ok_gsta {M : zMD} {pc idx j : Nat} (hj : j < 3) (hd : decode M.2.1 pc = .ok (.getstatic idx, 3)) (hl : Cond.fieldLink M.1.cls idx "ShadowTax" (z_sn j) "[I" ∈ tbG) : zOk M pc (o_gsta j) := fun X d Q k n ls st L μ h => by
  refine z_go (fun p l e R s m args below meth c b oa D ca Z mc ms G H locs cells slots lsM hk hn hR hS hL w => ?_) h
  exact va_gets G.1.1 G.1.2.1 (z_sZ hj G.2.1.2.2.1) hS G.1.2.2.2.2.1 (G.1.2.2.2.2.2.1 _ hl) (fun _ q => q) hd w
theorem ok_gstaN {M : zMD} {pc idx j : Nat} (hj : j < 3) (hd : decode M.2.1 pc = .ok (.getstatic idx, 3)) (hl : (M.1.cls, idx, "ShadowTax", z_sn j, "[I", "ShadowTax") ∈ z_fl) : zOk M pc (o_gsta j) := fun X d Q k n ls st L μ h => by
  refine z_go (fun p l e R s m args below meth c b oa D ca Z mc ms G H locs cells slots lsM hk hn hR hS hL w => ?_) h
  exact va_getsN G.1.1 G.1.2.1 (z_sZ hj G.2.1.2.2.1) hS G.1.2.2.2.2.1 (va_Nw.use rfl (G.2.1.2.1.2.1 _ hl)) (fun _ q => q) hd w
