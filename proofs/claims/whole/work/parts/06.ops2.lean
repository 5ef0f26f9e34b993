/-! stores into locals, switches, returns, fields, arrays -/
def z_k1 (ls : zLs) (j : Nat) : zLs := match ls[j]? with
  | some (some (.long _)) => ls.set j none
  | _ => ls
def z_kl (ls : zLs) : Nat → zLs
  | 0 => ls
  | j + 1 => z_k1 ls j
def z_st1 (ls : zLs) (i : Nat) (v : Value) : zLs := (z_kl ls i).set i (some v)
def z_st2 (ls : zLs) (i : Nat) (v : Value) : zLs := ((z_kl ls i).set (i + 1) none).set i (some v)
def z_al (b : Nat) (oa : Nat → Nat) (ls : zLs) : List (Nat × Value) := (List.range ls.length).filterMap (fun i => match ls[i]? with
  | some (some v) => some (i, z_tr b oa v)
  | _ => none)
theorem z_al_mem {b : Nat} {oa : Nat → Nat} {ls : zLs} {i : Nat} {v : Value} (h : ls[i]? = some (some v)) : (i, z_tr b oa v) ∈ z_al b oa ls := by
  refine List.mem_filterMap.mpr ⟨i, List.mem_range.mpr (List.getElem?_eq_some_iff.mp h).1, ?_⟩
  rw [h]
theorem z_al_inv {b : Nat} {oa : Nat → Nat} {ls : zLs} {q : Nat × Value} (h : q ∈ z_al b oa ls) : ∃ v, ls[q.1]? = some (some v) ∧ q.2 = z_tr b oa v := by
  obtain ⟨i, -, hi⟩ := List.mem_filterMap.mp h
  split at hi
  · rename_i v hv
    cases hi
    exact ⟨v, hv, rfl⟩
  · cases hi
theorem zLR.has {M : zMD} {b : Nat} {oa : Nat → Nat} {ls : zLs} {lsM : Array Slot} (h : zLR M b oa ls lsM) : lv_has lsM M.2.2.1 (z_al b oa ls) := by
  refine ⟨h.2.1, h.2.2.1, fun q hq => ?_⟩
  obtain ⟨v, h1, h2⟩ := z_al_inv hq
  rw [h2]
  exact h.2.2.2 _ _ h1
theorem z_kl_len (ls : zLs) (i : Nat) : (z_kl ls i).length = ls.length := by
  cases i with
  | zero => rfl
  | succ j =>
    show (z_k1 ls j).length = _
    unfold z_k1
    split
    · exact List.length_set
    · rfl
theorem z_kl_get {ls : zLs} {i j : Nat} {v : Value} (h : (z_kl ls i)[j]? = some (some v)) : ls[j]? = some (some v) ∧ ¬ (j + 1 = i ∧ v.category = 2 ∧ ∃ x, v = .long x) := by
  cases i with
  | zero => exact ⟨h, fun q => by omega⟩
  | succ i =>
    have h : (z_k1 ls i)[j]? = some (some v) := h
    unfold z_k1 at h
    split at h
    · rename_i x hx
      rw [List.getElem?_set] at h
      by_cases hj : i = j
      · subst hj
        rw [if_pos rfl] at h
        split at h <;> cases h
      · rw [if_neg hj] at h
        exact ⟨h, fun q => hj (by omega)⟩
    · rename_i hx
      refine ⟨h, fun ⟨q1, q2, x, q3⟩ => ?_⟩
      have : i = j := by omega
      subst this
      subst q3
      exact hx x h
theorem z_cat2 {b : Nat} {oa : Nat → Nat} {v : Value} : (z_tr b oa v).category = 2 → ¬ (∃ x, v = .double x) → ∃ x, v = .long x := by
  cases v with
  | long x => exact fun _ _ => ⟨x, rfl⟩
  | double x => exact fun _ h => absurd ⟨x, rfl⟩ h
  | _ => exact fun h => by cases h
/-- no local is a double -/
def z_nd (ls : zLs) : Prop := ∀ (i : Nat) (x : UInt64), ls[i]? ≠ some (some (.double x))
def z_ndb (ls : zLs) : Bool := ls.all (fun o => match o with
  | some (.double _) => false
  | _ => true)
theorem z_nd_of {ls : zLs} (h : z_ndb ls = true) : z_nd ls := by
  intro i x hx
  have := List.all_eq_true.mp h _ (List.mem_of_getElem? hx)
  cases this
theorem zLR.st1 {M : zMD} {b : Nat} {oa : Nat → Nat} {ls : zLs} {lsM lsN : Array Slot} {i : Nat} {v : Value} (h : zLR M b oa ls lsM) (hd : z_ndb ls = true) (hn : lv_has lsN M.2.2.1 ((i, z_tr b oa v) :: (z_al b oa ls).filter (fun q => !(q.1 == i) && !(q.1 + 1 == i && q.2.category == 2)))) : zLR M b oa (z_st1 ls i v) lsN := by
  refine ⟨by unfold z_st1; rw [List.length_set, z_kl_len]; exact h.1, hn.1, hn.2.1, fun j w hw => ?_⟩
  unfold z_st1 at hw
  rw [List.getElem?_set] at hw
  by_cases hj : i = j
  · subst hj
    rw [if_pos rfl] at hw
    split at hw
    · cases hw
      exact hn.2.2 _ List.mem_cons_self
    · cases hw
  · rw [if_neg hj] at hw
    obtain ⟨h1, h2⟩ := z_kl_get hw
    refine hn.2.2 (j, z_tr b oa w) (List.mem_cons_of_mem _ (List.mem_filter.mpr ⟨z_al_mem h1, ?_⟩))
    have e1 : (j == i) = false := by simpa using Ne.symm hj
    have e2 : (j + 1 == i && (z_tr b oa w).category == 2) = false := by
      by_cases hq : j + 1 = i
      · have : ¬ (z_tr b oa w).category = 2 := fun hc => h2 ⟨hq, by rw [z_tr_cat] at hc; exact hc, z_cat2 hc (fun ⟨x, hx⟩ => z_nd_of hd j x (by rw [h1, hx]))⟩
        simp [this]
      · simp [hq]
    simp only [e1, e2]
    rfl
theorem zLR.st2 {M : zMD} {b : Nat} {oa : Nat → Nat} {ls : zLs} {lsM lsN : Array Slot} {i : Nat} {v : Value} (h : zLR M b oa ls lsM) (hd : z_ndb ls = true) (hn : lv_has lsN M.2.2.1 ((i, z_tr b oa v) :: (z_al b oa ls).filter (fun q => !(q.1 == i) && (!(q.1 == i + 1) && !(q.1 + 1 == i && q.2.category == 2))))) : zLR M b oa (z_st2 ls i v) lsN := by
  refine ⟨by unfold z_st2; rw [List.length_set, List.length_set, z_kl_len]; exact h.1, hn.1, hn.2.1, fun j w hw => ?_⟩
  unfold z_st2 at hw
  rw [List.getElem?_set] at hw
  by_cases hj : i = j
  · subst hj
    rw [if_pos rfl] at hw
    split at hw
    · cases hw
      exact hn.2.2 _ List.mem_cons_self
    · cases hw
  · rw [if_neg hj, List.getElem?_set] at hw
    by_cases hj1 : i + 1 = j
    · rw [if_pos hj1] at hw
      split at hw <;> cases hw
    · rw [if_neg hj1] at hw
      obtain ⟨h1, h2⟩ := z_kl_get hw
      refine hn.2.2 (j, z_tr b oa w) (List.mem_cons_of_mem _ (List.mem_filter.mpr ⟨z_al_mem h1, ?_⟩))
      have e1 : (j == i) = false := by simpa using Ne.symm hj
      have e3 : (j == i + 1) = false := by simpa using Ne.symm hj1
      have e2 : (j + 1 == i && (z_tr b oa w).category == 2) = false := by
        by_cases hq : j + 1 = i
        · have : ¬ (z_tr b oa w).category = 2 := fun hc => h2 ⟨hq, by rw [z_tr_cat] at hc; exact hc, z_cat2 hc (fun ⟨x, hx⟩ => z_nd_of hd j x (by rw [h1, hx]))⟩
          simp [this]
        · simp [hq]
      simp only [e1, e2, e3]
      rfl
def o_st1i (i w : Nat) : zOp := fun _ _ K _ k n pc ls st L μ => match st with
  | .int v :: st' => bif z_ndb ls then K k n (pc + w) (z_st1 ls i (.int v)) st' L μ else False
  | _ => False
def o_st1a (i w : Nat) : zOp := fun _ _ K _ k n pc ls st L μ => match st with
  | .ref v :: st' => bif z_ndb ls then K k n (pc + w) (z_st1 ls i (.ref v)) st' L μ else False
  | _ => False
def o_st2 (i w : Nat) : zOp := fun _ _ K _ k n pc ls st L μ => match st with
  | .long v :: st' => bif z_ndb ls then K k n (pc + w) (z_st2 ls i (.long v)) st' L μ else False
  | _ => False
def o_iinc (i : Nat) (c : Int32) : zOp := fun _ _ K _ k n pc ls st L μ => match ls[i]? with
  | some (some (.int x)) => bif z_ndb ls then K k n (pc + 3) (z_st1 ls i (.int (x + c))) st L μ else False
  | _ => False
theorem z_gos {M : zMD} {X : zXs} {d : Nat} {Q : zRQ} {k n pc pc' : Nat} {ls ls' : zLs} {st st' : List Value} {L : List zSh} {μ : zMem}
    (hw : ∀ (p : Program) (l : Launch) (e : Env) (R : Room) (s : State) (m : MethodId) (args : Array Value) (below : List Frame) (meth : Method) (c : Code) (b : Nat) (oa : Nat → Nat) (D : va_G) (ca : Nat → ClassId) (Z : State → Prop) (mc ms : Nat), zGood X d ((p, l, e, R, s), (m, args, below, meth, c), (b, oa, D, ca), (Z, mc, ms)) M Q → ∀ (H : Heap) (locs : List Loc) (cells slots : Nat) (lsM : Array Slot), zLR M b oa ls lsM →
      (∀ lsN, zLR M b oa ls' lsN → W p l e R s m args below meth c H locs cells slots Z (F0 m pc' lsN (st'.map (z_tr b oa)))) → W p l e R s m args below meth c H locs cells slots Z (F0 m pc lsM (st.map (z_tr b oa))))
    (h : zT X d M Q k n pc' ls' st' L μ) : zT X d M Q k n pc ls st L μ := by
  intro ⟨⟨p, l, e, R, s⟩, ⟨m, args, below, meth, c⟩, ⟨b, oa, D, ca⟩, ⟨Z, mc, ms⟩⟩ G H locs cells slots lsM hk hn hR hS hL
  exact hw p l e R s m args below meth c b oa D ca Z mc ms G H locs cells slots lsM hL (fun lsN hN => h ((p, l, e, R, s), (m, args, below, meth, c), (b, oa, D, ca), (Z, mc, ms)) G H locs cells slots lsN hk hn hR hS hN)
theorem ok_istore_n {M : zMD} {pc : Nat} {i : Fin 4} (hd : decode M.2.1 pc = .ok (.istore_n i, 1)) (hi : (i : Nat) < M.2.2.1) : zOk M pc (o_st1i i 1) := fun _ _ _ _ _ _ st _ _ h => match st, h with
  | .int v :: _, h => z_gos (fun _ _ _ _ _ _ _ _ _ _ b oa _ _ _ _ _ G _ _ _ _ _ hL w => lv_istore_n G.1.1 G.1.2.1 hd rfl hL.has hi rfl fun lsN hN => w lsN (hL.st1 (v := .int v) (z_cd h).1 hN)) (z_cd h).2
theorem ok_istore {M : zMD} {pc i : Nat} (hd : decode M.2.1 pc = .ok (.istore i, 2)) (hi : i < M.2.2.1) : zOk M pc (o_st1i i 2) := fun _ _ _ _ _ _ st _ _ h => match st, h with
  | .int v :: _, h => z_gos (fun _ _ _ _ _ _ _ _ _ _ b oa _ _ _ _ _ G _ _ _ _ _ hL w => lv_istore G.1.1 G.1.2.1 hd hL.has hi rfl fun lsN hN => w lsN (hL.st1 (v := .int v) (z_cd h).1 hN)) (z_cd h).2
theorem ok_astore_n {M : zMD} {pc : Nat} {i : Fin 4} (hd : decode M.2.1 pc = .ok (.astore_n i, 1)) (hi : (i : Nat) < M.2.2.1) : zOk M pc (o_st1a i 1) := fun _ _ _ _ _ _ st _ _ h => match st, h with
  | .ref v :: _, h => z_gos (fun _ _ _ _ _ _ _ _ _ _ b oa _ _ _ _ _ G _ _ _ _ _ hL w => lv_astore_n G.1.1 G.1.2.1 hd rfl hL.has hi rfl fun lsN hN => w lsN (hL.st1 (v := .ref v) (z_cd h).1 hN)) (z_cd h).2
theorem ok_astore {M : zMD} {pc i : Nat} (hd : decode M.2.1 pc = .ok (.astore i, 2)) (hi : i < M.2.2.1) : zOk M pc (o_st1a i 2) := fun _ _ _ _ _ _ st _ _ h => match st, h with
  | .ref v :: _, h => z_gos (fun _ _ _ _ _ _ _ _ _ _ b oa _ _ _ _ _ G _ _ _ _ _ hL w => lv_astore G.1.1 G.1.2.1 hd hL.has hi rfl fun lsN hN => w lsN (hL.st1 (v := .ref v) (z_cd h).1 hN)) (z_cd h).2
theorem ok_lstore {M : zMD} {pc i : Nat} (hd : decode M.2.1 pc = .ok (.lstore i, 2)) (hi : i + 1 < M.2.2.1) : zOk M pc (o_st2 i 2) := fun _ _ _ _ _ _ st _ _ h => match st, h with
  | .long v :: _, h => z_gos (fun _ _ _ _ _ _ _ _ _ _ b oa _ _ _ _ _ G _ _ _ _ _ hL w => lv_lstore G.1.1 G.1.2.1 hd hL.has hi rfl fun lsN hN => w lsN (hL.st2 (v := .long v) (z_cd h).1 hN)) (z_cd h).2
theorem ok_iinc {M : zMD} {pc i : Nat} {c : Int} {cv : Int32} (hd : decode M.2.1 pc = .ok (.iinc i c, 3)) (hc : Int32.ofInt c = cv) (hi : i < M.2.2.1) : zOk M pc (o_iinc i cv) := fun _ _ _ _ _ ls _ _ _ h => by
  unfold o_iinc at h
  split at h
  · rename_i x hv
    subst hc
    refine z_gos (fun _ _ _ _ _ _ _ _ _ _ b oa _ _ _ _ _ G _ _ _ _ _ hL w => ?_) (z_cd h).2
    obtain ⟨k, hk⟩ := List.getElem?_of_mem (z_al_mem (b := b) (oa := oa) hv)
    exact lv_iinc G.1.1 G.1.2.1 hd hL.has hk rfl hi rfl fun lsN hN => w lsN (hL.st1 (v := .int (x + Int32.ofInt c)) (z_cd h).1 hN)
  · exact h.elim
