/-! Math, Object's constructor, new cells, arraycopy -/
theorem ok_ldc_w {M : zMD} {pc idx : Nat} {v : Int32} (hd : decode M.2.1 pc = .ok (.ldc_w idx, 3)) (hc : Jvm.Cond.constant M.1.cls idx v ∈ tbG) : zOk M pc (o_con (.int v) 3) := fun _ _ _ _ _ _ _ _ _ h => z_go (fun _ _ _ _ _ _ _ _ _ _ _ _ _ _ _ _ _ G _ _ _ _ _ _ _ _ _ _ w => lv_ldcw G.1.1 G.1.2.1 G.1.2.2.2.2.1 (G.1.2.2.2.2.2.1 _ hc) hd w) h
theorem z_lmax : Cond.code Lib.Math.max.name Lib.Math.max.code 2 (some .int) ∈ tbG := tbG_mem 552 (by decide +kernel) (by decide +kernel)
theorem z_lmin : Cond.code Lib.Math.min.name Lib.Math.min.code 2 (some .int) ∈ tbG := tbG_mem 549 (by decide +kernel) (by decide +kernel)
theorem z_smax : Cond.static Lib.Math.max.name ∈ tbG := tbG_mem 551 (by decide +kernel) (by decide +kernel)
theorem z_smin : Cond.static Lib.Math.min.name ∈ tbG := tbG_mem 548 (by decide +kernel) (by decide +kernel)
theorem z_imath : Cond.initialized "java/lang/Math" ∈ tbG := tbG_mem 97 (by decide +kernel) (by decide +kernel)
theorem z_locode : Cond.code Lib.objectInit ⟨#[0xb1]⟩ 1 none ∈ tbG := tbG_mem 108 (by decide +kernel) (by decide +kernel)
theorem z_loinst : Cond.instanceMethod Lib.objectInit ∈ tbG := tbG_mem 107 (by decide +kernel) (by decide +kernel)
theorem z_acnat : Cond.native arraycopyName ∈ tbG := tbG_mem 760 (by decide +kernel) (by decide +kernel)
theorem z_acst : Cond.static arraycopyName ∈ tbG := tbG_mem 759 (by decide +kernel) (by decide +kernel)
theorem z_isys : Cond.initialized "java/lang/System" ∈ tbG := tbG_mem 100 (by decide +kernel) (by decide +kernel)
theorem z_aint : Cond.arrayClass .int ∈ tbG := tbG_mem 145 (by decide +kernel) (by decide +kernel)
theorem z_abool : Cond.arrayClass .boolean ∈ tbG := tbG_mem 915 (by decide +kernel) (by decide +kernel)
def o_mmax : zOp := fun _ d K _ k n pc ls st L μ => match st with
  | .int y :: .int x :: st' => bif Nat.ble st'.length 4 then 1 ≤ d ∧ K k n (pc + 3) ls (.int (if x < y then y else x) :: st') L μ else False
  | _ => False
def o_mmin : zOp := fun _ d K _ k n pc ls st L μ => match st with
  | .int y :: .int x :: st' => bif Nat.ble st'.length 4 then 1 ≤ d ∧ K k n (pc + 3) ls (.int (if y < x then y else x) :: st') L μ else False
  | _ => False
theorem ok_mmax {M : zMD} {pc idx : Nat} (hd : decode M.2.1 pc = .ok (.invokestatic idx, 3)) (hl : Cond.methodLink M.1.cls idx Lib.Math.max.name ∈ tbG) : zOk M pc o_mmax := fun X d Q k n ls st L μ h => match st, h with
  | .int y :: .int x :: st', h => by
    obtain ⟨h4, h1, h⟩ := z_cd h
    have h4 := Nat.le_of_ble_eq_true h4
    refine z_go (fun p l e R s m args below meth c b oa D ca Z mc ms G H locs cells slots lsM hk hn hR hS hL w => ?_) h
    have hts := G.1.2.2.2.2.2.1
    have hrm := G.2.2.1
    have hr := z_rest (b := b) (oa := oa) st'
    exact va_mmax G.1.1 G.1.2.1 (G.1.2.2.2.1.trans hL.2.1.symm) G.1.2.2.2.2.1 (hts _ hl) (hts _ z_smax) (hts _ z_imath) (hts _ z_lmax) (by omega) (by omega) (by omega) (by omega) hd w
theorem ok_mmin {M : zMD} {pc idx : Nat} (hd : decode M.2.1 pc = .ok (.invokestatic idx, 3)) (hl : Cond.methodLink M.1.cls idx Lib.Math.min.name ∈ tbG) : zOk M pc o_mmin := fun X d Q k n ls st L μ h => match st, h with
  | .int y :: .int x :: st', h => by
    obtain ⟨h4, h1, h⟩ := z_cd h
    have h4 := Nat.le_of_ble_eq_true h4
    refine z_go (fun p l e R s m args below meth c b oa D ca Z mc ms G H locs cells slots lsM hk hn hR hS hL w => ?_) h
    have hts := G.1.2.2.2.2.2.1
    have hrm := G.2.2.1
    have hr := z_rest (b := b) (oa := oa) st'
    exact va_mmin G.1.1 G.1.2.1 (G.1.2.2.2.1.trans hL.2.1.symm) G.1.2.2.2.2.1 (hts _ hl) (hts _ z_smin) (hts _ z_imath) (hts _ z_lmin) (by omega) (by omega) (by omega) (by omega) hd w
def o_oini : zOp := fun _ d K _ k n pc ls st L μ => match st with
  | .ref _ :: st' => bif Nat.ble st'.length 4 then 1 ≤ d ∧ K k n (pc + 3) ls st' L μ else False
  | _ => False
theorem ok_oini {M : zMD} {pc idx : Nat} (hd : decode M.2.1 pc = .ok (.invokespecial idx, 3)) (hl : Cond.methodLink M.1.cls idx Lib.objectInit ∈ tbG) : zOk M pc o_oini := fun X d Q k n ls st L μ h => match st, h with
  | .ref a :: st', h => by
    obtain ⟨h4, h1, h⟩ := z_cd h
    have h4 := Nat.le_of_ble_eq_true h4
    refine z_go (fun p l e R s m args below meth c b oa D ca Z mc ms G H locs cells slots lsM hk hn hR hS hL w => ?_) h
    have hts := G.1.2.2.2.2.2.1
    have hrm := G.2.2.1
    have hr := z_rest (b := b) (oa := oa) st'
    exact W.objInit G.1.1 G.1.2.1 G.1.2.2.2.2.1 (hts _ hl) (hts _ z_loinst) (hts _ z_locode) rfl (hL.2.1.trans G.1.2.2.2.1.symm) rfl hd (by omega) (by show 2 * 0 + _ + 12 ≤ _; omega) w
/-- a new cell's memory -/
def z_zr (μ : zMem) (a : Nat) : zMem := (fun b j => if b = a then 0 else μ.1 b j, fun b j => if b = a then 0 else μ.2.1 b j, fun b j => if b = a then none else μ.2.2 b j)
theorem z_ent_Z {b : Nat} {oa : Nat → Nat} {ca : Nat → ClassId} {μ : zMem} {a : Nat} (x : Nat) (hx : x ≠ a) (s : zSh) : z_ent b oa ca s (z_zr μ a) x = z_ent b oa ca s μ x := by
  unfold z_ent z_fv z_zr
  simp only [if_neg hx]
theorem z_ws_push {b : Nat} {oa : Nat → Nat} {ca : Nat → ClassId} {L : List zSh} {μ : zMem} {sh : zSh} : z_ws b oa ca (L ++ [sh]) (z_zr μ L.length) = z_ws b oa ca L μ ++ [(b + L.length, z_ent b oa ca sh (z_zr μ L.length) L.length)] := by
  unfold z_ws
  rw [List.length_append, List.length_singleton, List.range_succ, List.map_append]
  congr 1
  · refine List.map_congr_left fun a ha => ?_
    have ha : a < L.length := List.mem_range.mp ha
    have e : (L ++ [sh]).getD a (0, 0) = L.getD a (0, 0) := by rw [List.getD_eq_getElem?_getD, List.getD_eq_getElem?_getD, List.getElem?_append_left ha]
    rw [e, z_ent_Z a (Nat.ne_of_lt ha)]
  · simp
/-- behind a new cell -/
theorem z_nw {M : zMD} {X : zXs} {d : Nat} {Q : zRQ} {k n pc pc' N : Nat} {ls : zLs} {st st' : List Value} {L : List zSh} {μ : zMem} {sh : zSh} (hl : L.length < 1000000) (hk0 : 1 ≤ k) (hn0 : N ≤ n)
    (hg : ∀ (p : Program) (l : Launch) (e : Env) (R : Room) (s : State) (m : MethodId) (args : Array Value) (below : List Frame) (meth : Method) (c : Code) (b : Nat) (oa : Nat → Nat) (D : va_G) (ca : Nat → ClassId) (Z : State → Prop) (mc ms : Nat), zGood X d ((p, l, e, R, s), (m, args, below, meth, c), (b, oa, D, ca), (Z, mc, ms)) M Q → ∀ (H : Heap) (locs : List Loc) (cells slots : Nat) (lsM : Array Slot), cells + 1 ≤ R.cells → slots + N ≤ R.slots → H.size = b + L.length →
      (∀ H1 : Heap, va_at D clT (b + L.length, z_ent b oa ca sh (z_zr μ L.length) L.length) H1 → H1.size = b + L.length + 1 → (∀ q : Nat, q < b + L.length → H1[q]? = H[q]?) → W p l e R s m args below meth c H1 locs (cells + 1) (slots + N) Z (F0 m pc' lsM (.ref (b + L.length) :: st'.map (z_tr b oa)))) → W p l e R s m args below meth c H locs cells slots Z (F0 m pc lsM (st.map (z_tr b oa))))
    (h : zT X d M Q (k - 1) (n - N) pc' ls (.ref L.length :: st') (L ++ [sh]) (z_zr μ L.length)) : zT X d M Q k n pc ls st L μ := by
  intro ⟨⟨p, l, e, R, s⟩, ⟨m, args, below, meth, c⟩, ⟨b, oa, D, ca⟩, ⟨Z, mc, ms⟩⟩ G H locs cells slots lsM hk hn hR hS hL
  have hrm := G.2.2.1
  refine hg p l e R s m args below meth c b oa D ca Z mc ms G H locs cells slots lsM (by omega) (by omega) hR.2 fun H1 hat hz hq => ?_
  have hw := h ((p, l, e, R, s), (m, args, below, meth, c), (b, oa, D, ca), (Z, mc, ms)) G H1 locs (cells + 1) (slots + N) lsM (by omega) (by omega) ⟨?_, ?_⟩ ?_ hL
  · have e1 : z_tr b oa (.ref L.length) = .ref (b + L.length) := congrArg Value.ref (z_ta_in hl)
    rw [List.map_cons, e1] at hw
    exact hw
  · rw [z_ws_push]
    refine va_P.app (hR.1.kept fun j q hj => hq q.1 (by have := (hR.1 j q hj).lt; have := hR.2; omega)) fun j q hj => ?_
    have h0 : j < 1 := (List.getElem?_eq_some_iff.mp hj).1
    rw [show j = 0 by omega] at hj
    cases hj
    exact hat
  · rw [hz, List.length_append, List.length_singleton, Nat.add_assoc]
  · have := hR.2
    exact ⟨Nat.le_trans hS.1 (by omega), fun q h1 h2 => (hq q (by have := hS.1; omega)).trans (hS.2.1 q h1 h2), hS.2.2⟩
def o_new (ci : Nat) : zOp := fun _ _ K _ k n pc ls st L μ => (L.length < 1000000 ∧ 1 ≤ k ∧ z_nf ci ≤ n) ∧ K (k - 1) (n - z_nf ci) (pc + 3) ls (.ref L.length :: st) (L ++ [(ci, 0)]) (z_zr μ L.length)
theorem z_def {ty : FieldType} {a f : Nat} {μ : zMem} {ci : Nat} (ht : z_ft ci f = ty) (hb : ty ≠ .byte ∧ ty ≠ .char ∧ ty ≠ .short ∧ ty ≠ .float ∧ ty ≠ .double) : defaultValue ty = z_fv (z_zr μ a) a ci f := by
  unfold z_fv z_fk
  rw [ht]
  unfold z_zr
  cases ty <;> first | (simp [z_tk, defaultValue, z_rv]; done) | (simp at hb; done)
theorem z_nob {ci : Nat} {C : String} {T : u_T} {N j : Nat} (hc : clT[ci]? = some (C, T, N)) (hj : j < N) : z_ft ci j ≠ .byte ∧ z_ft ci j ≠ .char ∧ z_ft ci j ≠ .short ∧ z_ft ci j ≠ .float ∧ z_ft ci j ≠ .double := by
  have hlt : ci < 8 := (List.getElem?_eq_some_iff.mp hc).1
  have h : ∀ c, c < 8 → ∀ i, i < 43 → (z_ft c i ≠ .byte ∧ z_ft c i ≠ .char ∧ z_ft c i ≠ .short ∧ z_ft c i ≠ .float ∧ z_ft c i ≠ .double) := by decide +kernel
  have hN : N ≤ 43 := by
    have h2 : ∀ c, c < 8 → z_nf c ≤ 43 := by decide +kernel
    rw [← (z_cls hc).2.1]
    exact h2 ci hlt
  exact h ci hlt j (by omega)
theorem ok_new {M : zMD} {pc idx ci : Nat} {C : String} {T : u_T} {N : Nat} (hd : decode M.2.1 pc = .ok (.new idx, 3)) (hc : clT[ci]? = some (C, T, N)) (hl : Cond.classLink M.1.cls idx C ∈ tbG) (hi : Cond.instantiable C N ∈ tbG) (hini : Cond.initialized C ∈ tbG) : zOk M pc (o_new ci) := fun X d Q k n ls st L μ h => by
  obtain ⟨⟨h1, h2, h3⟩, h⟩ := h
  obtain ⟨h10, hnf, hu, hty, hnm⟩ := z_cls hc
  refine z_nw h1 h2 h3 (fun p l e R s m args below meth c b oa D ca Z mc ms G H locs cells slots lsM hcl hsl hz w => ?_) h
  have hts := G.1.2.2.2.2.2.1
  have hKn := G.2.1.1.1 ci _ hc
  rw [hnf] at hsl w
  refine W.newcK G.1.1 G.1.2.1 G.1.2.2.2.2.1 (hts _ hl) (hts _ hi) (hts _ hini) rfl hd hcl hsl hKn.2.1 hz fun H1 kC hkC e1 z1 o1 => ?_
  refine w H1 ?_ z1 o1
  rw [z_ent_o h10]
  refine ⟨_, hc, (u_born (z_ft ci) hts hu hKn hkC e1 hty).to fun j hj => ?_⟩
  have hj' : j < N := hj
  have hq := z_def (a := L.length) (μ := μ) (rfl : z_ft ci j = z_ft ci j) (z_nob hc hj')
  show defaultValue (z_ft ci j) = ((List.range (z_nf ci)).map (fun k => z_tr b oa (z_fv (z_zr μ L.length) L.length ci k))).getD j .null
  rw [hnf, List.getD_eq_getElem?_getD, List.getElem?_map, List.getElem?_range hj']
  show _ = z_tr b oa (z_fv (z_zr μ L.length) L.length ci j)
  rw [← hq]
  cases z_ft ci j <;> rfl
def o_newa (t : Nat) : zOp := fun _ _ K _ k n pc ls st L μ => match st with
  | .int i :: st' => (L.length < 1000000 ∧ 1 ≤ k ∧ i.toNatClampNeg ≤ n ∧ ¬ i < 0 ∧ i.toNatClampNeg ≤ 1000000) ∧ K (k - 1) (n - i.toNatClampNeg) (pc + 2) ls (.ref L.length :: st') (L ++ [(t, i.toNatClampNeg)]) (z_zr μ L.length)
  | _ => False
theorem z_zr_i (μ : zMem) (a : Nat) : (z_zr μ a).1 a = fun _ => 0 := by
  funext j
  show (if a = a then (0 : Int32) else μ.1 a j) = 0
  rw [if_pos rfl]
theorem z_zr_r (b : Nat) (oa : Nat → Nat) (μ : zMem) (a : Nat) : (fun i => ((z_zr μ a).2.2 a i).map (z_ta b oa)) = fun _ => none := by
  funext j
  show ((if a = a then none else μ.2.2 a j).map (z_ta b oa)) = none
  rw [if_pos rfl]
  rfl
theorem ok_newa10 {M : zMD} {pc : Nat} (hd : decode M.2.1 pc = .ok (.newarray .int, 2)) : zOk M pc (o_newa 10) := fun X d Q k n ls st L μ h => match st, h with
  | .int i :: st', h => by
    obtain ⟨⟨h1, h2, h3, h4, h5⟩, h⟩ := h
    refine z_nw h1 h2 h3 (fun p l e R s m args below meth c b oa D ca Z mc ms G H locs cells slots lsM hcl hsl hz w => ?_) h
    refine va_newaK (atype := .int) G.1.1 G.1.2.1 (G.1.2.2.2.2.2.1 _ z_aint) rfl hd rfl h4 rfl (by show i.toNatClampNeg * 4 ≤ _; omega) hcl hsl hz fun H1 cA e1 z1 o1 hAr hNm => ?_
    have hca : cA = ca 10 := Option.some.inj (hNm.symm.trans (G.2.1.1.2 0 _ rfl).2)
    subst hca
    refine w H1 ?_ z1 o1
    rw [z_ent_i (by omega) (by omega), z_zr_i]
    exact e1
theorem ok_newa11 {M : zMD} {pc : Nat} (hd : decode M.2.1 pc = .ok (.newarray .boolean, 2)) : zOk M pc (o_newa 11) := fun X d Q k n ls st L μ h => match st, h with
  | .int i :: st', h => by
    obtain ⟨⟨h1, h2, h3, h4, h5⟩, h⟩ := h
    refine z_nw h1 h2 h3 (fun p l e R s m args below meth c b oa D ca Z mc ms G H locs cells slots lsM hcl hsl hz w => ?_) h
    refine va_newaK (atype := .boolean) G.1.1 G.1.2.1 (G.1.2.2.2.2.2.1 _ z_abool) rfl hd rfl h4 rfl (by show i.toNatClampNeg * 1 ≤ _; omega) hcl hsl hz fun H1 cA e1 z1 o1 hAr hNm => ?_
    have hca : cA = ca 11 := Option.some.inj (hNm.symm.trans (G.2.1.1.2 1 _ rfl).2)
    subst hca
    refine w H1 ?_ z1 o1
    rw [z_ent_i (by omega) (by omega), z_zr_i]
    exact e1
def o_newq (ci : Nat) : zOp := fun _ _ K _ k n pc ls st L μ => match st with
  | .int i :: st' => (L.length < 1000000 ∧ 1 ≤ k ∧ i.toNatClampNeg ≤ n ∧ ¬ i < 0 ∧ i.toNatClampNeg ≤ 1000000) ∧ K (k - 1) (n - i.toNatClampNeg) (pc + 3) ls (.ref L.length :: st') (L ++ [(20 + ci, i.toNatClampNeg)]) (z_zr μ L.length)
  | _ => False
theorem ok_newq {M : zMD} {pc idx ci : Nat} {r : vw_C} (hci : ci = 2 ∨ ci = 3 ∨ ci = 5) (hd : decode M.2.1 pc = .ok (.anewarray idx, 3)) (hc : clT[ci]? = some r) (hl : Cond.classLink M.1.cls idx r.1 ∈ tbG) : zOk M pc (o_newq ci) := fun X d Q k n ls st L μ h => match st, h with
  | .int i :: st', h => by
    obtain ⟨⟨h1, h2, h3, h4, h5⟩, h⟩ := h
    refine z_nw h1 h2 h3 (fun p l e R s m args below meth c b oa D ca Z mc ms G H locs cells slots lsM hcl hsl hz w => ?_) h
    have hAO : va_AO r.1 s := by
      refine G.2.1.2.1.2.2.1 r.1 ?_
      rcases hci with rfl | rfl | rfl <;> cases hc <;> decide
    have ht : (z_tys ca)[z_tp (20 + ci)]? = some (ca (20 + ci), .object r.1) := by rcases hci with rfl | rfl | rfl <;> cases hc <;> rfl
    refine W.anew G.1.1 G.1.2.1 G.1.2.2.2.2.1 (G.1.2.2.2.2.2.1 _ hl) (va_AO.use hAO) rfl hd rfl h4 (by omega) hcl hsl fun cA kA comp f1 f2 f3 f4 => ?_
    obtain ⟨kA', comp', k1, k2, k3, k4⟩ := (G.2.1.1.2 _ _ ht).2
    have hca : cA = ca (20 + ci) := Option.some.inj (f1.symm.trans k4)
    subst hca
    have hz' : H.size = b + L.length := hz
    have z1 : (H.push ({ cls := ca (20 + ci), slots := Array.replicate i.toNatClampNeg .null, vm := .none } : Cell)).size = b + L.length + 1 := by rw [Array.size_push, hz]
    have e1 : (H.push ({ cls := ca (20 + ci), slots := Array.replicate i.toNatClampNeg .null, vm := .none } : Cell))[b + L.length]? = some (arrV (ca (20 + ci)) i.toNatClampNeg (fun _ => .null)) := by rw [← hz, Array.getElem?_push_size, ← arrV_new]
    have o1 : ∀ q : Nat, q < b + L.length → (H.push ({ cls := ca (20 + ci), slots := Array.replicate i.toNatClampNeg .null, vm := .none } : Cell))[q]? = H[q]? := fun q hq => by rw [Array.getElem?_push, if_neg (by omega)]
    have := w _ ?_ z1 o1
    · rw [← hz] at this
      exact this
    · rw [z_ent_r (by omega), z_zr_r]
      exact e1
/-- a constructor is called; it may make cells -/
def o_cI (M' : zMD) (np : Nat) : zOp := fun X d K _ k n pc ls st L μ => match st.drop np with
  | .ref a :: rest => bif Nat.ble rest.length 4 then
    (1 ≤ d ∧ a < 1000000) ∧ ∃ (k1 n1 : Nat) (Q' : zRQ), (k1 ≤ k ∧ n1 ≤ n) ∧ zC X (d - 1) k1 n1 M' (.ref a :: (st.take np).reverse) L μ Q' ∧ ∀ v L' μ', Q' v L' μ' → K (k - k1) (n - n1) (pc + 3) ls (v.toList ++ rest) L' μ' else False
  | _ => False
theorem ok_cI {M M' : zMD} {pc idx np : Nat} (hM : zMok M' np) (hd : decode M.2.1 pc = .ok (.invokespecial idx, 3)) (hnm : M'.1.name = "<init>") (hi : Cond.instanceMethod M'.1 ∈ tbG) (hl : Cond.methodLink M.1.cls idx M'.1 ∈ tbG) (hv : M'.2.2.2 = none := by rfl) : zOk M pc (o_cI M' np) := fun X d Q k n ls st L μ h => by
  unfold o_cI at h
  split at h
  · rename_i a rest hdr
    obtain ⟨h4, ⟨h1, ha⟩, k1, n1, Q', ⟨hk1, hn1⟩, hC, h⟩ := z_cd h
    have h4 := Nat.le_of_ble_eq_true h4
    have hlen : np + (rest.length + 1) = st.length := by
      have := congrArg List.length hdr
      simp at this
      omega
    have hst : st = st.take np ++ .ref a :: rest := by rw [← hdr, List.take_append_drop]
    refine z_call (M' := M') (rest := rest) (as := .ref a :: (st.take np).reverse) hk1 hn1 (fun p l e R s m args below meth c b oa D ca Z mc ms G H locs cells slots lsM hf hR hWd hsz => ?_) h
    have hts := G.1.2.2.2.2.2.1
    have hta : z_tr b oa (.ref a) = .ref (b + a) := congrArg Value.ref (z_ta_in ha)
    have hM1 := hC l b oa D ca
    rw [List.map_cons, hta] at hM1 ⊢
    have hcb := callB_of (R := R) (rm := { frames := d - 1, cells := k1, slots := n1, locals := 64 * (d - 1) }) (mc := k1) (ms := n1) np hts (z_good M' hM) rfl rfl rfl (hts _ hM.2.2.1) (hts _ hl) hM.2.2.2.1 (z_rm hM h1 G)
    rw [hv] at hcb
    refine va_runI (b := b + a) (As := (st.take np).reverse.map (z_tr b oa)) ⟨G.1.1, G.1.2.1, G.1.2.2.2.1, G.1.2.2.2.2.1, hts⟩ hM1 ⟨hcb, hnm, hts _ hi⟩ ⟨?_, fun U hU hW => ⟨rfl, by rw [hU]; exact hWd.warm hW, by rw [hU]; exact hR⟩⟩ rfl (by simp; omega) hsz ?_ (by show 2 * 0 + _ ≤ 8; have := z_rest (b := b) (oa := oa) rest; omega) hd hf
    · have := z_blind (b := b) (oa := oa) (D := D) (ca := ca) (X := X) (L := L) (μ := μ) (as := .ref a :: (st.take np).reverse)
      rw [List.map_cons, hta] at this
      exact this
    · show st.map (z_tr b oa) = _
      rw [List.map_reverse, List.reverse_reverse, ← hta, ← List.map_cons, ← List.map_append, ← hst]
  · exact h.elim
theorem ok_cIN {M M' : zMD} {pc idx np : Nat} {host : String} (hM : zMok M' np) (hd : decode M.2.1 pc = .ok (.invokespecial idx, 3)) (hnm : M'.1.name = "<init>") (hi : Cond.instanceMethod M'.1 ∈ tbG) (hl : (M.1.cls, idx, M'.1, host) ∈ z_ml) (hv : M'.2.2.2 = none := by rfl) : zOk M pc (o_cI M' np) := fun X d Q k n ls st L μ h => by
  unfold o_cI at h
  split at h
  · rename_i a rest hdr
    obtain ⟨h4, ⟨h1, ha⟩, k1, n1, Q', ⟨hk1, hn1⟩, hC, h⟩ := z_cd h
    have h4 := Nat.le_of_ble_eq_true h4
    have hlen : np + (rest.length + 1) = st.length := by
      have := congrArg List.length hdr
      simp at this
      omega
    have hst : st = st.take np ++ .ref a :: rest := by rw [← hdr, List.take_append_drop]
    refine z_call (M' := M') (rest := rest) (as := .ref a :: (st.take np).reverse) hk1 hn1 (fun p l e R s m args below meth c b oa D ca Z mc ms G H locs cells slots lsM hf hR hWd hsz => ?_) h
    have hts := G.1.2.2.2.2.2.1
    have hta : z_tr b oa (.ref a) = .ref (b + a) := congrArg Value.ref (z_ta_in ha)
    have hM1 := hC l b oa D ca
    rw [List.map_cons, hta] at hM1 ⊢
    have hcb := va_cnB (R := R) (rm := { frames := d - 1, cells := k1, slots := n1, locals := 64 * (d - 1) }) (mc := k1) (ms := n1) np hts (z_good M' hM) rfl rfl rfl (hWd.2.1.1 _ hl) (hts _ hM.2.2.1) hM.2.2.2.1 (z_rm hM h1 G)
    rw [hv] at hcb
    refine va_runIN (b := b + a) (As := (st.take np).reverse.map (z_tr b oa)) ⟨G.1.1, G.1.2.1, G.1.2.2.2.1, G.1.2.2.2.2.1, hts⟩ hM1 ⟨hcb, hnm, hts _ hi⟩ ⟨?_, fun U hU hW => ⟨rfl, by rw [hU]; exact hWd.warm hW, by rw [hU]; exact hR⟩⟩ rfl (by simp; omega) hsz ?_ (by show 2 * 0 + _ ≤ 8; have := z_rest (b := b) (oa := oa) rest; omega) hd hf
    · have := z_blind (b := b) (oa := oa) (D := D) (ca := ca) (X := X) (L := L) (μ := μ) (as := .ref a :: (st.take np).reverse)
      rw [List.map_cons, hta] at this
      exact this
    · show st.map (z_tr b oa) = _
      rw [List.map_reverse, List.reverse_reverse, ← hta, ← List.map_cons, ← List.map_append, ← hst]
  · exact h.elim
/-- System.arraycopy of int rows -/
def z_cp (μ : zMem) (a0 a1 sp dp n : Nat) : zMem := (fun b j => if b = a1 then va_cpy (μ.1 a0) (μ.1 a1) sp dp n j else μ.1 b j, μ.2.1, μ.2.2)
def o_copy : zOp := fun _ d K _ k n pc ls st L μ => match st with
  | .int c :: .int dp :: .ref a1 :: .int sp :: .ref a0 :: st' => bif Nat.ble st'.length 4 then (1 ≤ d ∧ (a0 < 1000000 ∧ a1 < 1000000) ∧ (¬ sp < 0 ∧ ¬ dp < 0 ∧ ¬ c < 0) ∧ ∃ n0 n1, (L[a0]? = some (10, n0) ∧ L[a1]? = some (10, n1)) ∧ sp.toNatClampNeg + c.toNatClampNeg ≤ n0 ∧ dp.toNatClampNeg + c.toNatClampNeg ≤ n1) ∧ K k n (pc + 3) ls st' L (z_cp μ a0 a1 sp.toNatClampNeg dp.toNatClampNeg c.toNatClampNeg) else False
  | _ => False
theorem z_ent_C {b : Nat} {oa : Nat → Nat} {ca : Nat → ClassId} {μ : zMem} {a0 a1 sp dp n : Nat} (x : Nat) (hx : x ≠ a1) (s : zSh) : z_ent b oa ca s (z_cp μ a0 a1 sp dp n) x = z_ent b oa ca s μ x := by
  unfold z_ent z_fv z_cp
  simp only [if_neg hx]
theorem ok_copy {M : zMD} {pc idx : Nat} (hd : decode M.2.1 pc = .ok (.invokestatic idx, 3)) (hl : Cond.methodLink M.1.cls idx arraycopyName ∈ tbG) : zOk M pc o_copy := fun X d Q k n ls st L μ h => match st, h with
  | .int cn :: .int dp :: .ref a1 :: .int sp :: .ref a0 :: st', h => by
    obtain ⟨h4, ⟨hd1, ⟨ha0, ha1⟩, ⟨h1, h2, h3⟩, n0, n1, ⟨hw0, hw1⟩, h5, h6⟩, h⟩ := z_cd h
    have h4 := Nat.le_of_ble_eq_true h4
    intro ⟨⟨p, l, e, R, s⟩, ⟨m, args, below, meth, c⟩, ⟨b, oa, D, ca⟩, ⟨Z, mc, ms⟩⟩ G H locs cells slots lsM hk hn hR hS hL
    have hts := G.1.2.2.2.2.2.1
    have hrm := G.2.2.1
    have hr := z_rest (b := b) (oa := oa) st'
    show W p l e R s m args below meth c H locs cells slots Z (F0 m pc lsM (.int cn :: .int dp :: .ref (z_ta b oa a1) :: .int sp :: .ref (z_ta b oa a0) :: _))
    rw [z_ta_in ha0, z_ta_in ha1]
    have nn : ∀ z : Int32, ¬ z < 0 → z.toInt = (z.toNatClampNeg : Int) := by
      intro z hz
      have hz0 : (0 : Int) ≤ z.toInt := by
        have := Int32.not_lt.mp hz
        simpa using Int32.le_iff_toInt_le.mp this
      show z.toInt = ((z.toInt.toNat : Nat) : Int)
      omega
    have hnat : nativeFrameWords "java/lang/System" "arraycopy" 5 ≤ 40 := by decide +kernel
    intro T hT Xs
    have hc0 : H[b + a0]? = some (vp_cell (ca 10) (n0, .inl (μ.1 a0))) := hR.1 a0 _ ((z_ws_get hw0).trans (congrArg some (congrArg (Prod.mk (b + a0)) (z_ent_i (by omega) (by omega)))))
    have hc1 : H[b + a1]? = some (vp_cell (ca 10) (n1, .inl (μ.1 a1))) := hR.1 a1 _ ((z_ws_get hw1).trans (congrArg some (congrArg (Prod.mk (b + a1)) (z_ent_i (by omega) (by omega)))))
    obtain ⟨-, k0, hk0, cm0, hkk0⟩ := (G.2.1.1.2 0 _ rfl).1 n0 (fun j => .int (μ.1 a0 j))
    obtain ⟨-, k1, hk1, cm1, hkk1⟩ := (G.2.1.1.2 0 _ rfl).1 n1 (fun j => .int (μ.1 a1 j))
    obtain ⟨vm', X', step⟩ := Xs.arraycopy G.1.1 G.1.2.2.2.2.1 (hts _ hl) (hts _ z_acnat) (hts _ z_acst) (hts _ z_isys) (src := b + a0) (dst := b + a1) (cs := vp_cell (ca 10) (n0, .inl (μ.1 a0))) (cd := vp_cell (ca 10) (n1, .inl (μ.1 a1))) (srcPos := sp) (destPos := dp) (n := cn) (by rw [hT]; exact hc0) (by rw [hT]; exact hc1)
      (fun _ h => by cases h) (fun _ h => by cases h) (fun h => by cases h) (fun h => by cases h) hk0 hk1 hkk0 hkk1 rfl h1 h2 h3
      (by rw [nn sp h1, nn cn h3]; show ¬ _ > ((arrV (ca 10) n0 (fun j => .int (μ.1 a0 j))).slots.size : Int); rw [arrV_size]; omega)
      (by rw [nn dp h2, nn cn h3]; show ¬ _ > ((arrV (ca 10) n1 (fun j => .int (μ.1 a1 j))).slots.size : Int); rw [arrV_size]; omega)
      (fun vm₁ _ i hi => by
        have e : (vp_cell (ca 10) (n0, .inl (μ.1 a0))).slots.getD (sp.toNatClampNeg + i) .null = .int (μ.1 a0 (sp.toNatClampNeg + i)) := by
          show (arrV (ca 10) n0 (fun j => .int (μ.1 a0 j))).slots.getD _ _ = _
          rw [Array.getD_eq_getD_getElem?, arrV_read _ _ (by omega)]
          rfl
        refine ⟨?_, ?_⟩
        · rw [e]; rfl
        · rw [e]; exact trivial)
      (g := F0 m pc lsM (.int cn :: .int dp :: .ref (b + a1) :: .int sp :: .ref (b + a0) :: st'.map (z_tr b oa))) rfl (hL.2.1.trans G.1.2.2.2.1.symm) (rest := st'.map (z_tr b oa)) rfl (by rw [G.1.2.1]; exact hd) (by omega) (by show 2 * 0 + _ + (nativeFrameWords "java/lang/System" "arraycopy" 5 + 11) ≤ _; omega)
    have e1 : copied (vp_cell (ca 10) (n0, .inl (μ.1 a0))) (vp_cell (ca 10) (n1, .inl (μ.1 a1))) sp dp cn = vp_cell (ca 10) (n1, .inl (va_cpy (μ.1 a0) (μ.1 a1) sp.toNatClampNeg dp.toNatClampNeg cn.toNatClampNeg)) := va_copied (fun z => .int z) (ca 10) (ca 10) (μ.1 a0) (μ.1 a1) h5
    rw [e1] at X' step
    have hlt : b + a1 < H.size := (Array.getElem?_eq_some_iff.mp hc1).1
    generalize hcell : vp_cell (ca 10) (n1, .inl (va_cpy (μ.1 a0) (μ.1 a1) sp.toNatClampNeg dp.toNatClampNeg cn.toNatClampNeg)) = cell at X' step
    have hheap : ((T.setVm vm').setCell (b + a1) cell).heap = H.setIfInBounds (b + a1) cell := by rw [← hT]; rfl
    have oq : ∀ q : Nat, q ≠ b + a1 → (H.setIfInBounds (b + a1) cell)[q]? = H[q]? := fun q hq => by simp [Array.getElem?_setIfInBounds, Ne.symm hq]
    have hat : va_at D clT (b + a1, z_ent b oa ca (10, n1) (z_cp μ a0 a1 sp.toNatClampNeg dp.toNatClampNeg cn.toNatClampNeg) a1) (H.setIfInBounds (b + a1) cell) := by
      rw [z_ent_i (by omega) (by omega)]
      show (H.setIfInBounds (b + a1) cell)[b + a1]? = some (vp_cell _ _)
      have e2 : (z_cp μ a0 a1 sp.toNatClampNeg dp.toNatClampNeg cn.toNatClampNeg).1 a1 = va_cpy (μ.1 a0) (μ.1 a1) sp.toNatClampNeg dp.toNatClampNeg cn.toNatClampNeg := by
        funext j
        show (if a1 = a1 then _ else _) = _
        rw [if_pos rfl]
      rw [e2, hcell]
      simp [Array.getElem?_setIfInBounds, hlt]
    have hP1 := hR.1.set z_ws_D (z_ws_get hw1) hat oq
    rw [z_ws_set hw1 rfl (fun x q s => z_ent_C x q s)] at hP1
    obtain ⟨t, q1, q2⟩ := h ((p, l, e, R, s), (m, args, below, meth, c), (b, oa, D, ca), (Z, mc, ms)) G (H.setIfInBounds (b + a1) cell) _ cells slots lsM hk hn ⟨hP1, by rw [Array.size_setIfInBounds]; exact hR.2⟩ ⟨by simp; exact hS.1, fun q g1 g2 => by
        rw [oq q (fun e => g2 (by rw [e]; exact Nat.le_add_right _ _))]
        exact hS.2.1 q g1 g2, fun q hq => by
        rcases List.mem_append.mp hq with h | h
        · exact hS.2.2 q h
        · obtain ⟨z, -, hz⟩ := List.mem_map.mp h
          rw [← hz]
          exact Nat.le_add_right _ _⟩ hL _ hheap X'
    exact ⟨t, step t q1, q2⟩
