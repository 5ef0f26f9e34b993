/-! switches, returns, fields, arrays -/
def o_tsw (dflt : Nat) (lo hi : Int) (ts : List Nat) : zOp := fun _ _ K _ k n _ ls st L μ => match st with
  | .int x :: st' => ((x.toInt < lo ∨ hi < x.toInt) → K k n dflt ls st' L μ) ∧ ∀ (j t : Nat), x.toInt = lo + (j : Int) → ts[j]? = some t → K k n t ls st' L μ
  | _ => False
theorem ok_tsw {M : zMD} {pc len dt : Nat} {dflt lo hi : Int} {offs : Array Int} {ts : List Nat} (hd : decode M.2.1 pc = .ok (.tableswitch dflt lo hi offs, len)) (ht : (pc : Int) + dflt = (dt : Int)) (hz : offs.toList.map (fun o => (pc : Int) + o) = ts.map (fun t : Nat => (t : Int))) (hl : (ts.length : Int) = hi - lo + 1) : zOk M pc (o_tsw dt lo hi ts) := fun X d Q k n ls st L μ h => match st, h with
  | .int x :: st', h => by
    intro ⟨⟨p, l, e, R, s⟩, ⟨m, args, below, meth, c⟩, ⟨b, oa, D, ca⟩, ⟨Z, mc, ms⟩⟩ G H locs cells slots lsM hk hn hR hS hL
    by_cases hx : x.toInt < lo ∨ hi < x.toInt
    · exact lv_tableOut G.1.1 G.1.2.1 hd hx ht (h.1 hx ((p, l, e, R, s), (m, args, below, meth, c), (b, oa, D, ca), (Z, mc, ms)) G H locs cells slots lsM hk hn hR hS hL)
    · have h1 : ¬ x.toInt < lo := fun q => hx (Or.inl q)
      have h2 : ¬ hi < x.toInt := fun q => hx (Or.inr q)
      have hj : (x.toInt - lo).toNat < ts.length := by omega
      have hjo : (x.toInt - lo).toNat < offs.toList.length := by
        have := congrArg List.length hz
        simp only [List.length_map] at this
        omega
      have e1 : (ts[(x.toInt - lo).toNat]?) = some (ts[(x.toInt - lo).toNat]) := List.getElem?_eq_getElem hj
      have e2 : offs[(x.toInt - lo).toNat]? = some (offs.toList[(x.toInt - lo).toNat]) := by rw [← Array.getElem?_toList]; exact List.getElem?_eq_getElem hjo
      have e3 : (pc : Int) + offs.toList[(x.toInt - lo).toNat] = ((ts[(x.toInt - lo).toNat] : Nat) : Int) := by
        have h3 : (offs.toList.map (fun o => (pc : Int) + o))[(x.toInt - lo).toNat]? = (ts.map (fun t : Nat => (t : Int)))[(x.toInt - lo).toNat]? := by rw [hz]
        rw [List.getElem?_map, List.getElem?_map, e1, List.getElem?_eq_getElem hjo] at h3
        exact Option.some.inj h3
      exact lv_tableIn G.1.1 G.1.2.1 hd h1 h2 e2 e3 (h.2 _ _ (by omega) e1 ((p, l, e, R, s), (m, args, below, meth, c), (b, oa, D, ca), (Z, mc, ms)) G H locs cells slots lsM hk hn hR hS hL)
/-- returns -/
def o_vret : zOp := fun _ _ _ Q _ _ _ _ st L μ => match st with
  | [] => Q none L μ
  | _ => False
theorem ok_vret {M : zMD} {pc : Nat} (hd : decode M.2.1 pc = .ok (.return_, 1)) (hr : M.2.2.2 = none) : zOk M pc o_vret := fun X d Q k n ls st L μ h => match st, h with
  | [], h => by
    intro ⟨⟨p, l, e, R, s⟩, ⟨m, args, below, meth, c⟩, ⟨b, oa, D, ca⟩, ⟨Z, mc, ms⟩⟩ G H locs cells slots lsM hk hn hR hS hL
    exact G.2.2.2 none L μ H locs cells slots pc lsM h hR hS (by omega) (by omega) (Or.inl ⟨hd, rfl, hr⟩)
def o_iret : zOp := fun _ _ _ Q _ _ _ _ st L μ => match st with
  | [.int x] => Q (some (.int x)) L μ
  | _ => False
theorem ok_iret {M : zMD} {pc : Nat} (hd : decode M.2.1 pc = .ok (.ireturn, 1)) (hr : M.2.2.2 = some .int) : zOk M pc o_iret := fun X d Q k n ls st L μ h => match st, h with
  | [.int x], h => by
    intro ⟨⟨p, l, e, R, s⟩, ⟨m, args, below, meth, c⟩, ⟨b, oa, D, ca⟩, ⟨Z, mc, ms⟩⟩ G H locs cells slots lsM hk hn hR hS hL
    exact G.2.2.2 (some (.int x)) L μ H locs cells slots pc lsM h hR hS (by omega) (by omega) (Or.inr (Or.inl ⟨x, _, hd, rfl, hr, rfl⟩))
def o_zret (ty : FieldType) : zOp := fun _ _ _ Q _ _ _ _ st L μ => match st with
  | [.int x] => narrow ty (.int x) = .int x ∧ Q (some (.int x)) L μ
  | _ => False
theorem ok_zret {M : zMD} {pc : Nat} {ty : FieldType} (hd : decode M.2.1 pc = .ok (.ireturn, 1)) (hr : M.2.2.2 = some ty) : zOk M pc (o_zret ty) := fun X d Q k n ls st L μ h => match st, h with
  | [.int x], h => by
    intro ⟨⟨p, l, e, R, s⟩, ⟨m, args, below, meth, c⟩, ⟨b, oa, D, ca⟩, ⟨Z, mc, ms⟩⟩ G H locs cells slots lsM hk hn hR hS hL
    exact G.2.2.2 (some (.int x)) L μ H locs cells slots pc lsM h.2 hR hS (by omega) (by omega) (Or.inr (Or.inl ⟨x, _, hd, rfl, hr, h.1⟩))
def o_lret : zOp := fun _ _ _ Q _ _ _ _ st L μ => match st with
  | [.long x] => Q (some (.long x)) L μ
  | _ => False
theorem ok_lret {M : zMD} {pc : Nat} (hd : decode M.2.1 pc = .ok (.lreturn, 1)) (hr : M.2.2.2 = some .long) : zOk M pc o_lret := fun X d Q k n ls st L μ h => match st, h with
  | [.long x], h => by
    intro ⟨⟨p, l, e, R, s⟩, ⟨m, args, below, meth, c⟩, ⟨b, oa, D, ca⟩, ⟨Z, mc, ms⟩⟩ G H locs cells slots lsM hk hn hR hS hL
    exact G.2.2.2 (some (.long x)) L μ H locs cells slots pc lsM h hR hS (by omega) (by omega) (Or.inr (Or.inr ⟨x, hd, rfl, hr⟩))
/-- of a class of ours: its fields' words, their types, their names -/
theorem z_cls {ci : Nat} {C : String} {T : u_T} {N : Nat} (h : clT[ci]? = some (C, T, N)) : ci < 10 ∧ z_nf ci = N ∧ (∀ w ∈ u_ws C T N, w ∈ tbG) ∧ (∀ k, k < N → parseFieldDescriptor (T k).2.2.1 = some (z_ft ci k)) ∧ (∀ a, a < N → ∀ b, b < N → a ≠ b → (T a).2.1 ≠ (T b).2.1) := by
  have hlt : ci < 8 := (List.getElem?_eq_some_iff.mp h).1
  have hnf : z_nf ci = N := by unfold z_nf; rw [h]
  refine ⟨by omega, hnf, ?_⟩
  match ci, hlt, h with
  | 0, _, h => cases h; exact ⟨u_X0, tyX0_ok, nmX0⟩
  | 1, _, h => cases h; exact ⟨u_X1, tyX1_ok, nmX1⟩
  | 2, _, h => cases h; exact ⟨u_X2, tyX2_ok, nmX2⟩
  | 3, _, h => cases h; exact ⟨u_X3, tyX3_ok, nmX3⟩
  | 4, _, h => cases h; exact ⟨u_X4, tyX4_ok, nmX4⟩
  | 5, _, h => cases h; exact ⟨u_X5, tyX5_ok, nmX5⟩
  | 6, _, h => cases h; exact ⟨u_X6, tyX6_ok, nmX6⟩
  | 7, _, h => cases h; exact ⟨u_X7, tyX7_ok, nmX7⟩
theorem z_ent_o {b : Nat} {oa : Nat → Nat} {ca : Nat → ClassId} {ci n a : Nat} {μ : zMem} (h : ci < 10) : z_ent b oa ca (ci, n) μ a = .inr (ci, (List.range (z_nf ci)).map (fun k => z_tr b oa (z_fv μ a ci k))) := if_pos h
def o_get (ci f : Nat) : zOp := fun _ _ K _ k n pc ls st L μ => match st with
  | .ref a :: st' => (a < 1000000 ∧ ∃ w, L[a]? = some (ci, w)) ∧ K k n (pc + 3) ls (z_fv μ a ci f :: st') L μ
  | _ => False
theorem z_ta_in {b : Nat} {oa : Nat → Nat} {a : Nat} (h : a < 1000000) : z_ta b oa a = b + a := if_pos h
theorem ok_get {M : zMD} {pc idx ci f : Nat} {C : String} {T : u_T} {N : Nat} (hd : decode M.2.1 pc = .ok (.getfield idx, 3)) (hc : clT[ci]? = some (C, T, N)) (hf : f < N) (hl : Cond.fieldLink M.1.cls idx (T f).1 (T f).2.1 (T f).2.2.1 ∈ tbG) : zOk M pc (o_get ci f) := fun X d Q k n ls st L μ h => match st, h with
  | .ref a :: st', h => by
    obtain ⟨⟨ha, w, hw⟩, h⟩ := h
    obtain ⟨h10, hnf, hu, hty, hnm⟩ := z_cls hc
    refine z_go (fun p l e R s m args below meth c b oa D ca Z mc ms G H locs cells slots lsM hk hn hR hS hL w => ?_) h
    have he := (z_ws_get (b := b) (oa := oa) (ca := ca) (μ := μ) hw).trans (congrArg some (congrArg (Prod.mk (b + a)) (z_ent_o h10)))
    rw [hnf] at he
    show W p l e R s m args below meth c H locs cells slots Z (F0 m pc lsM (.ref (z_ta b oa a) :: _))
    rw [z_ta_in ha]
    exact va_get G.1.1 G.1.2.1 G.1.2.2.2.2.2.1 hu G.1.2.2.2.2.1 G.2.1.1 hR.1 a he hc f hf (G.1.2.2.2.2.2.1 _ hl) (fun _ q => q) (by rw [List.getElem?_map, List.getElem?_range hf]; rfl) hd w
