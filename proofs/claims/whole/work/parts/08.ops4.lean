/-! fields are put; arrays -/
theorem z_fv_I {μ : zMem} {a ci f : Nat} {x : Int32} (hk : z_fk ci f = 0) : z_fv (z_sI μ a f x) a ci f = .int x := by unfold z_fv; rw [hk]; show Value.int (z_up μ.1 a f x a f) = _; rw [z_up_s]
theorem z_fv_L {μ : zMem} {a ci f : Nat} {x : Int64} (hk : z_fk ci f = 1) : z_fv (z_sL μ a f x) a ci f = .long x := by unfold z_fv; rw [hk]; show Value.long (z_up μ.2.1 a f x a f) = _; rw [z_up_s]
theorem z_fv_R {μ : zMem} {a ci f : Nat} {x : Option Nat} (hk : z_fk ci f = 2) : z_fv (z_sR μ a f x) a ci f = z_rv x := by unfold z_fv; rw [hk]; show z_rv (z_up μ.2.2 a f x a f) = _; rw [z_up_s]
theorem z_fv_In {μ : zMem} {a ci f : Nat} {x : Int32} (j : Nat) (hj : j ≠ f) : z_fv (z_sI μ a f x) a ci j = z_fv μ a ci j := by unfold z_fv z_sI; dsimp only; rw [z_up_n _ _ _ _ _ _ (fun q => hj q.2)]
theorem z_fv_Ln {μ : zMem} {a ci f : Nat} {x : Int64} (j : Nat) (hj : j ≠ f) : z_fv (z_sL μ a f x) a ci j = z_fv μ a ci j := by unfold z_fv z_sL; dsimp only; rw [z_up_n _ _ _ _ _ _ (fun q => hj q.2)]
theorem z_fv_Rn {μ : zMem} {a ci f : Nat} {x : Option Nat} (j : Nat) (hj : j ≠ f) : z_fv (z_sR μ a f x) a ci j = z_fv μ a ci j := by unfold z_fv z_sR; dsimp only; rw [z_up_n _ _ _ _ _ _ (fun q => hj q.2)]
theorem z_put {M : zMD} {pc idx ci f : Nat} {C : String} {T : u_T} {N : Nat} (hd : decode M.2.1 pc = .ok (.putfield idx, 3)) (hc : clT[ci]? = some (C, T, N)) (hf : f < N) (hl : Cond.fieldLink M.1.cls idx (T f).1 (T f).2.1 (T f).2.2.1 ∈ tbG) (hfin : (T f).2.2.2 = false ∨ ((T f).2.2.2 = true ∧ M.1.name = "<init>" ∧ (T f).1 = M.1.cls))
    {X : zXs} {d : Nat} {Q : zRQ} {k n : Nat} {ls : zLs} {st' : List Value} {L : List zSh} {μ μ' : zMem} {v : Value} {a w : Nat} (hn : ∀ b oa, narrow (z_ft ci f) (z_tr b oa v) = z_tr b oa v) (hfit : ∀ b oa, fits (z_ft ci f) (z_tr b oa v) = true)
    (hv : z_fv μ' a ci f = v) (ho : ∀ j, j ≠ f → z_fv μ' a ci j = z_fv μ a ci j) (hx : ∀ (x : Nat), x ≠ a → ∀ b oa ca s, z_ent b oa ca s μ' x = z_ent b oa ca s μ x) (ha : a < 1000000) (hw : L[a]? = some (ci, w)) (h : zT X d M Q k n (pc + 3) ls st' L μ') : zT X d M Q k n pc ls (v :: .ref a :: st') L μ := by
  obtain ⟨h10, hnf, hu, hty, hnm⟩ := z_cls hc
  intro ⟨⟨p, l, e, R, s⟩, ⟨m, args, below, meth, c⟩, ⟨b, oa, D, ca⟩, ⟨Z, mc, ms⟩⟩ G H locs cells slots lsM hk hn2 hR hS hL
  have he := (z_ws_get (b := b) (oa := oa) (ca := ca) (μ := μ) hw).trans (congrArg some (congrArg (Prod.mk (b + a)) (z_ent_o h10)))
  rw [hnf] at he
  have hset : (z_ws b oa ca L μ).set a (b + a, .inr (ci, ((List.range N).map (fun k => z_tr b oa (z_fv μ a ci k))).set f (z_tr b oa v))) = z_ws b oa ca L μ' := by
    refine z_ws_set hw ?_ (fun x q s => hx x q b oa ca s)
    rw [z_ent_o h10, hnf, z_fs_set hv ho]
  have hsz : ∀ (H1 : Heap) (locs1 : List Loc), va_P D clT ((z_ws b oa ca L μ).set a (b + a, .inr (ci, ((List.range N).map (fun k => z_tr b oa (z_fv μ a ci k))).set f (z_tr b oa v)))) H1 → H1.size = H.size → va_S (fun q => b ≤ q) s.heap H1 locs1 → W p l e R s m args below meth c H1 locs1 cells slots Z (F0 m (pc + 3) lsM (st'.map (z_tr b oa))) := by
    intro H1 locs1 hP1 hz hS1
    rw [hset] at hP1
    exact h ((p, l, e, R, s), (m, args, below, meth, c), (b, oa, D, ca), (Z, mc, ms)) G H1 locs1 cells slots lsM hk hn2 ⟨hP1, hz.trans hR.2⟩ hS1 hL
  show W p l e R s m args below meth c H locs cells slots Z (F0 m pc lsM (z_tr b oa v :: .ref (z_ta b oa a) :: _))
  rw [z_ta_in ha]
  obtain ⟨r, h1, cell, q1, q2, q3, q4⟩ := hR.1 a _ he
  have hr : r = (C, T, N) := Option.some.inj (h1.symm.trans hc)
  subst hr
  have hts := G.1.2.2.2.2.2.1
  have hap := va_apart (own := M.1.cls) hts hu (z_ft ci) hty hnm G.2.1.1 hc
  obtain ⟨hSl, hfc, kC, hkC, hkind⟩ := G.2.1.1.1 ci _ hc
  obtain ⟨cf, kf, fi, fd, hi, hsl⟩ := hSl f hf
  have hlay := hts _ (hu _ (u_in_lay hf))
  have hst := (u_facts hfc hkC (u_lays hts hu hf) hi).1
  have hlen : f < ((List.range N).map (fun k => z_tr b oa (z_fv μ a ci k))).length := by simpa using hf
  unfold u_lay at hlay
  rcases hfin with hfin | ⟨hfin, hin, hdecl⟩
  · rw [if_neg (by rw [hfin]; decide)] at hlay
    have h6 := u_store hfc hkC hkind hlay hi (hty f hf) (hn b oa) (hfit b oa)
    refine W.putK G.1.1 G.1.2.1 (f := fd) ⟨G.1.2.2.2.2.1, hts _ hl, ⟨_, _, _, hi⟩, hst⟩ (by rw [q2]; exact h6) q1 q3 (by rw [hsl]; exact k2_hasslot (q4 f hf)) rfl rfl hd fun H' e1 e2 e3 => ?_
    rw [hsl] at e1 ⊢
    exact hsz H' _ (hR.1.set z_ws_D he ⟨_, hc, t_OB.to (V := updV (vp_V _) f (z_tr b oa v)) ⟨_, e1, q2, q3, t_set q4 hap hf (z_tr b oa v)⟩ (fun j _ => vp_updV_set hlen (z_tr b oa v) j)⟩ e3) e2 (hS.put e2 e3 (Nat.le_add_right _ _))
  · rw [if_pos hfin] at hlay
    have hcf : m.cls = cf := by
      obtain ⟨_, _, c', _, _, _, -, -, hf', -, -, -, hown2, -⟩ := Cond.laysFinal_spec hlay
      have e1 : c' = cf := by have := hi.symm.trans hf'; simp at this; exact this.1.symm
      rw [hdecl] at hown2
      rw [← e1]; exact Option.some.inj (G.1.2.2.2.2.1.symm.trans hown2)
    have h6 := u_fits hfc hkC hkind (Or.inr hlay) hi (hty f hf) (hn b oa) (hfit b oa)
    refine W.putFinK G.1.1 G.1.2.1 G.1.2.2.2.2.1 (hts _ hl) hi hst hcf (G.1.2.2.2.2.2.2.2 hin) (by rw [q2]; exact h6) q1 q3 (by rw [hsl]; exact k2_hasslot (q4 f hf)) rfl rfl hd fun H' e1 e2 e3 => ?_
    rw [hsl] at e1 ⊢
    exact hsz H' _ (hR.1.set z_ws_D he ⟨_, hc, t_OB.to (V := updV (vp_V _) f (z_tr b oa v)) ⟨_, e1, q2, q3, t_set q4 hap hf (z_tr b oa v)⟩ (fun j _ => vp_updV_set hlen (z_tr b oa v) j)⟩ e3) e2 (hS.put e2 e3 (Nat.le_add_right _ _))
def o_puti (ci f : Nat) : zOp := fun _ _ K _ k n pc ls st L μ => match st with
  | .int x :: .ref a :: st' => (a < 1000000 ∧ ∃ w, L[a]? = some (ci, w)) ∧ K k n (pc + 3) ls st' L (z_sI μ a f x)
  | _ => False
theorem ok_puti {M : zMD} {pc idx ci f : Nat} {C : String} {T : u_T} {N : Nat} (hd : decode M.2.1 pc = .ok (.putfield idx, 3)) (hc : clT[ci]? = some (C, T, N)) (hf : f < N) (hl : Cond.fieldLink M.1.cls idx (T f).1 (T f).2.1 (T f).2.2.1 ∈ tbG) (hfin : (T f).2.2.2 = false) (hk : z_ft ci f = .int) : zOk M pc (o_puti ci f) := fun X d Q k n ls st L μ h => match st, h with
  | .int x :: .ref a :: st', h => by
    obtain ⟨⟨ha, w, hw⟩, h⟩ := h
    exact z_put hd hc hf hl (Or.inl hfin) (fun b oa => by rw [hk]; rfl) (fun b oa => by rw [hk]; rfl) (z_fv_I (by unfold z_fk; rw [hk]; rfl)) (fun j hj => z_fv_In j hj) (fun x hx b oa ca s => z_ent_I x hx s) ha hw h
def o_putz (ci f : Nat) : zOp := fun _ _ K _ k n pc ls st L μ => match st with
  | .int x :: .ref a :: st' => ((a < 1000000 ∧ ∃ w, L[a]? = some (ci, w)) ∧ (x = 0 ∨ x = 1)) ∧ K k n (pc + 3) ls st' L (z_sI μ a f x)
  | _ => False
theorem ok_putz {M : zMD} {pc idx ci f : Nat} {C : String} {T : u_T} {N : Nat} (hd : decode M.2.1 pc = .ok (.putfield idx, 3)) (hc : clT[ci]? = some (C, T, N)) (hf : f < N) (hl : Cond.fieldLink M.1.cls idx (T f).1 (T f).2.1 (T f).2.2.1 ∈ tbG) (hfin : (T f).2.2.2 = false) (hk : z_ft ci f = .boolean) : zOk M pc (o_putz ci f) := fun X d Q k n ls st L μ h => match st, h with
  | .int x :: .ref a :: st', h => by
    obtain ⟨⟨⟨ha, w, hw⟩, hx⟩, h⟩ := h
    refine z_put hd hc hf hl (Or.inl hfin) (fun b oa => ?_) (fun b oa => ?_) (z_fv_I (by unfold z_fk; rw [hk]; rfl)) (fun j hj => z_fv_In j hj) (fun x hx b oa ca s => z_ent_I x hx s) ha hw h
    · rw [hk]; rcases hx with rfl | rfl <;> rfl
    · rw [hk]; rcases hx with rfl | rfl <;> rfl
def o_putl (ci f : Nat) : zOp := fun _ _ K _ k n pc ls st L μ => match st with
  | .long x :: .ref a :: st' => (a < 1000000 ∧ ∃ w, L[a]? = some (ci, w)) ∧ K k n (pc + 3) ls st' L (z_sL μ a f x)
  | _ => False
theorem ok_putl {M : zMD} {pc idx ci f : Nat} {C : String} {T : u_T} {N : Nat} (hd : decode M.2.1 pc = .ok (.putfield idx, 3)) (hc : clT[ci]? = some (C, T, N)) (hf : f < N) (hl : Cond.fieldLink M.1.cls idx (T f).1 (T f).2.1 (T f).2.2.1 ∈ tbG) (hfin : (T f).2.2.2 = false) (hk : z_ft ci f = .long) : zOk M pc (o_putl ci f) := fun X d Q k n ls st L μ h => match st, h with
  | .long x :: .ref a :: st', h => by
    obtain ⟨⟨ha, w, hw⟩, h⟩ := h
    exact z_put hd hc hf hl (Or.inl hfin) (fun b oa => by rw [hk]; rfl) (fun b oa => by rw [hk]; rfl) (z_fv_L (by unfold z_fk; rw [hk]; rfl)) (fun j hj => z_fv_Ln j hj) (fun x hx b oa ca s => z_ent_L x hx s) ha hw h
def o_putr (ci f : Nat) : zOp := fun _ _ K _ k n pc ls st L μ => match st with
  | .ref r :: .ref a :: st' => (a < 1000000 ∧ ∃ w, L[a]? = some (ci, w)) ∧ K k n (pc + 3) ls st' L (z_sR μ a f (some r))
  | _ => False
theorem z_rfit {ty : FieldType} (h : z_tk ty = 2) (hb : ty ≠ .byte ∧ ty ≠ .char ∧ ty ≠ .short ∧ ty ≠ .float ∧ ty ≠ .double) (r : Nat) : narrow ty (.ref r) = .ref r ∧ fits ty (.ref r) = true := by
  cases ty <;> first | exact ⟨rfl, rfl⟩ | (simp at hb; done) | cases h
theorem ok_putr {M : zMD} {pc idx ci f : Nat} {C : String} {T : u_T} {N : Nat} (hd : decode M.2.1 pc = .ok (.putfield idx, 3)) (hc : clT[ci]? = some (C, T, N)) (hf : f < N) (hl : Cond.fieldLink M.1.cls idx (T f).1 (T f).2.1 (T f).2.2.1 ∈ tbG) (hfin : (T f).2.2.2 = false ∨ ((T f).2.2.2 = true ∧ M.1.name = "<init>" ∧ (T f).1 = M.1.cls)) (hk : z_tk (z_ft ci f) = 2) (hb : z_ft ci f ≠ .byte ∧ z_ft ci f ≠ .char ∧ z_ft ci f ≠ .short ∧ z_ft ci f ≠ .float ∧ z_ft ci f ≠ .double) : zOk M pc (o_putr ci f) := fun X d Q k n ls st L μ h => match st, h with
  | .ref r :: .ref a :: st', h => by
    obtain ⟨⟨ha, w, hw⟩, h⟩ := h
    exact z_put hd hc hf hl hfin (fun b oa => (z_rfit hk hb _).1) (fun b oa => (z_rfit hk hb _).2) (z_fv_R hk) (fun j hj => z_fv_Rn j hj) (fun x hx b oa ca s => z_ent_R x hx s) ha hw h
