/-! calls, and contracts out of walks -/
def z_en : Nat → List Value → zLs
  | n, [] => List.replicate n none
  | n, .long x :: vs => some (.long x) :: none :: z_en (n - 2) vs
  | n, v :: vs => some v :: z_en (n - 1) vs
def z_cs : List Value → Nat
  | [] => 0
  | .long _ :: vs => z_cs vs + 2
  | _ :: vs => z_cs vs + 1
/-- no double among them -/
def z_nv (vs : List Value) : Bool := vs.all (fun v => match v with
  | .double _ => false
  | _ => true)
theorem z_nv_c {v : Value} {vs : List Value} (h : z_nv (v :: vs) = true) : z_nv vs = true := by
  unfold z_nv at h
  rw [List.all_cons, Bool.and_eq_true] at h
  exact h.2
theorem z_en_len : ∀ (vs : List Value) (n : Nat), z_cs vs ≤ n → (z_en n vs).length = n
  | [], n, _ => List.length_replicate
  | .long x :: vs, n, h => by
    have h : z_cs vs + 2 ≤ n := h
    show (z_en (n - 2) vs).length + 1 + 1 = n
    rw [z_en_len vs (n - 2) (by omega)]
    omega
  | .int x :: vs, n, h => by
    have h : z_cs vs + 1 ≤ n := h
    show (z_en (n - 1) vs).length + 1 = n
    rw [z_en_len vs (n - 1) (by omega)]
    omega
  | .float x :: vs, n, h => by
    have h : z_cs vs + 1 ≤ n := h
    show (z_en (n - 1) vs).length + 1 = n
    rw [z_en_len vs (n - 1) (by omega)]
    omega
  | .double x :: vs, n, h => by
    have h : z_cs vs + 1 ≤ n := h
    show (z_en (n - 1) vs).length + 1 = n
    rw [z_en_len vs (n - 1) (by omega)]
    omega
  | .null :: vs, n, h => by
    have h : z_cs vs + 1 ≤ n := h
    show (z_en (n - 1) vs).length + 1 = n
    rw [z_en_len vs (n - 1) (by omega)]
    omega
  | .ref x :: vs, n, h => by
    have h : z_cs vs + 1 ≤ n := h
    show (z_en (n - 1) vs).length + 1 = n
    rw [z_en_len vs (n - 1) (by omega)]
    omega
  | .retAddr x :: vs, n, h => by
    have h : z_cs vs + 1 ≤ n := h
    show (z_en (n - 1) vs).length + 1 = n
    rw [z_en_len vs (n - 1) (by omega)]
    omega
theorem z_en_one {b : Nat} {oa : Nat → Nat} {v : Value} {vs : List Value} {n i : Nat} (hv : v.category = 1) (he : z_en n (v :: vs) = some v :: z_en (n - 1) vs) (ih : ∀ (m : Nat) (j : Nat) (w : Value), (z_en (n - 1) vs)[j]? = some (some w) → (m + j, z_tr b oa w) ∈ lv_args m (vs.map (z_tr b oa))) (j : Nat) (w : Value) (h : (z_en n (v :: vs))[j]? = some (some w)) : (i + j, z_tr b oa w) ∈ lv_args i ((v :: vs).map (z_tr b oa)) := by
  rw [he] at h
  show (i + j, z_tr b oa w) ∈ (i, z_tr b oa v) :: lv_args (if (z_tr b oa v).category = 2 then i + 2 else i + 1) (vs.map (z_tr b oa))
  rw [if_neg (by rw [z_tr_cat, hv]; decide)]
  cases j with
  | zero => cases h; exact List.mem_cons_self
  | succ j =>
    have h : (z_en (n - 1) vs)[j]? = some (some w) := h
    have := ih (i + 1) j w h
    rw [show i + 1 + j = i + (j + 1) by omega] at this
    exact List.mem_cons_of_mem _ this
theorem z_en_mem (b : Nat) (oa : Nat → Nat) : ∀ (vs : List Value) (n i j : Nat) (w : Value), z_nv vs = true → (z_en n vs)[j]? = some (some w) → (i + j, z_tr b oa w) ∈ lv_args i (vs.map (z_tr b oa))
  | [], n, i, j, w, _, h => by
    have h : (List.replicate n (none : Option Value))[j]? = some (some w) := h
    rw [List.getElem?_replicate] at h
    split at h <;> cases h
  | .long x :: vs, n, i, j, w, hn, h => by
    have hn : z_nv vs = true := (z_nv_c hn)
    show (i + j, z_tr b oa w) ∈ (i, Value.long x) :: lv_args (i + 2) (vs.map (z_tr b oa))
    match j, h with
    | 0, h => cases h; exact List.mem_cons_self
    | 1, h => cases h
    | j + 2, h =>
      have h : (z_en (n - 2) vs)[j]? = some (some w) := h
      have := z_en_mem b oa vs (n - 2) (i + 2) j w hn h
      rw [show i + 2 + j = i + (j + 2) by omega] at this
      exact List.mem_cons_of_mem _ this
  | .int x :: vs, n, i, j, w, hn, h => z_en_one rfl rfl (fun m j w q => z_en_mem b oa vs (n - 1) m j w (z_nv_c hn) q) j w h
  | .float x :: vs, n, i, j, w, hn, h => z_en_one rfl rfl (fun m j w q => z_en_mem b oa vs (n - 1) m j w (z_nv_c hn) q) j w h
  | .double x :: vs, n, i, j, w, hn, h => by simp [z_nv] at hn
  | .null :: vs, n, i, j, w, hn, h => z_en_one rfl rfl (fun m j w q => z_en_mem b oa vs (n - 1) m j w (z_nv_c hn) q) j w h
  | .ref x :: vs, n, i, j, w, hn, h => z_en_one rfl rfl (fun m j w q => z_en_mem b oa vs (n - 1) m j w (z_nv_c hn) q) j w h
  | .retAddr x :: vs, n, i, j, w, hn, h => z_en_one rfl rfl (fun m j w q => z_en_mem b oa vs (n - 1) m j w (z_nv_c hn) q) j w h
theorem z_sl_len (b : Nat) (oa : Nat → Nat) : ∀ (vs : List Value), z_nv vs = true → (lg_sl (vs.map (z_tr b oa))).length = z_cs vs
  | [], _ => rfl
  | .long x :: vs, h => by
    have := z_sl_len b oa vs (z_nv_c h)
    simp [lg_sl, z_tr, Value.category, z_cs] at this ⊢
    omega
  | .int x :: vs, h => by
    have := z_sl_len b oa vs (z_nv_c h)
    simp [lg_sl, z_tr, Value.category, z_cs] at this ⊢
    omega
  | .float x :: vs, h => by
    have := z_sl_len b oa vs (z_nv_c h)
    simp [lg_sl, z_tr, Value.category, z_cs] at this ⊢
    omega
  | .double x :: vs, h => by simp [z_nv] at h
  | .null :: vs, h => by
    have := z_sl_len b oa vs (z_nv_c h)
    simp [lg_sl, z_tr, Value.category, z_cs] at this ⊢
    omega
  | .ref x :: vs, h => by
    have := z_sl_len b oa vs (z_nv_c h)
    simp [lg_sl, z_tr, Value.category, z_cs] at this ⊢
    omega
  | .retAddr x :: vs, h => by
    have := z_sl_len b oa vs (z_nv_c h)
    simp [lg_sl, z_tr, Value.category, z_cs] at this ⊢
    omega
/-- what the tables say of a method of np parameters -/
def zMok (M : zMD) (np : Nat) : Prop := plainName M.1.cls = true ∧ Cond.code M.1 M.2.1 M.2.2.1 M.2.2.2 ∈ tbG ∧ Cond.initialized M.1.cls ∈ tbG ∧ (M.1.cls ≠ "java/lang/invoke/MethodHandle" ∧ M.1.cls ≠ "java/lang/invoke/VarHandle" ∧ (parseMethodDescriptor M.1.desc).map (fun d => d.parameters.length) = some np) ∧ M.2.2.1 ≤ 45
theorem zC.of {X : zXs} {d k n np : Nat} {M : zMD} {as : List Value} {L : List zSh} {μ : zMem} {Q : zRQ} (hM : zMok M np) (hcs : (Nat.ble (z_cs as) M.2.2.1 && z_nv as) = true) (h : zT X d M Q k n 0 (z_en M.2.2.1 as) [] L μ) : zC X d k n M as L μ Q := by
  intro l b oa D ca
  rw [Bool.and_eq_true] at hcs
  have hle : z_cs as ≤ M.2.2.1 := Nat.le_of_ble_eq_true hcs.1
  refine Met.ofW (cc := M.2.1) (maxL := M.2.2.1) (ret := M.2.2.2) hM.1 rfl ?_
  intro p e s m args below meth c s₁ B hml hv
  obtain ⟨rfl, hWd, hR⟩ := hv
  have hts := atoms_spec (ws := z_w M) B.pre
  have hl := lv_entry (as.map (z_tr b oa)) (n := M.2.2.1) (by rw [z_sl_len b oa as hcs.2]; exact hle)
  rw [lg_entry_eq]
  refine h ((p, l, e, { frames := d, cells := k, slots := n, locals := 64 * d }, s), (m, (as.map (z_tr b oa)).toArray, below, meth, c), (b, oa, D, ca), (MQ below (zQc b oa D ca Q) (as.map (z_tr b oa)).toArray s k n (fun q => b ≤ q), k, n)) ⟨⟨B.exec, B.bytes, B.returns, hml, findClass_of_methodNamed B.named, fun w hw => hts w (List.mem_cons_of_mem _ hw), B.notSynchronized, fun q => (name_of_methodNamed B.named B.method).1.trans q⟩, hWd, ⟨Nat.le_refl _, Nat.le_refl _, Nat.le_refl _, Nat.le_refl _⟩, ?_⟩ s.heap [] 0 0 _ (by omega) (by omega) hR va_S.rf ⟨z_en_len as _ hle, hl.1, hl.2.1, fun j w hw => ?_⟩
  · intro v L' μ' H locs cells slots pc lsM hQ hRel hS hc hs hret
    refine W.widen hc hs ?_
    rcases hret with ⟨hd, rfl, hr⟩ | ⟨x, ty, hd, rfl, hr, hnar⟩ | ⟨x, hd, rfl, hr⟩
    · exact W.vret B.exec B.bytes (B.returns.trans hr) (fun t ht hW => ⟨none, L', μ', rfl, hQ, by rw [ht]; exact hRel, hS.F ht⟩) hS.2.2 hd B.notSynchronized
    · exact W.zret B.exec B.bytes (B.returns.trans hr) hnar (fun t ht hW => ⟨some (.int x), L', μ', rfl, hQ, by rw [ht]; exact hRel, hS.F ht⟩) hS.2.2 hd B.notSynchronized
    · exact W.lret B.exec B.bytes (B.returns.trans hr) (fun t ht hW => ⟨some (.long x), L', μ', rfl, hQ, by rw [ht]; exact hRel, hS.F ht⟩) hS.2.2 hd B.notSynchronized
  · have := z_en_mem b oa as M.2.2.1 0 j w hcs.2 hw
    rw [Nat.zero_add] at this
    exact hl.2.2 _ this
/-- weaker ends, more room -/
theorem zT.mono {X : zXs} {d d' : Nat} {M : zMD} {Q Q' : zRQ} {k n pc : Nat} {ls : zLs} {st : List Value} {L : List zSh} {μ : zMem} (hQ : ∀ v L μ, Q v L μ → Q' v L μ) (hd : d ≤ d') (h : zT X d M Q k n pc ls st L μ) : zT X d' M Q' k n pc ls st L μ := by
  intro ⟨⟨p, l, e, R, s⟩, ⟨m, args, below, meth, c⟩, ⟨b, oa, D, ca⟩, ⟨Z, mc, ms⟩⟩ G
  exact h ((p, l, e, R, s), (m, args, below, meth, c), (b, oa, D, ca), (Z, mc, ms)) ⟨G.1, G.2.1, ⟨Nat.le_trans hd G.2.2.1.1, Nat.le_trans (Nat.mul_le_mul_left 64 hd) G.2.2.1.2.1, G.2.2.1.2.2⟩, fun v L μ H locs cells slots pc lsM q => G.2.2.2 v L μ H locs cells slots pc lsM (hQ v L μ q)⟩
/-- behind a call -/
theorem z_call {M M' : zMD} {X : zXs} {d : Nat} {Q Q' : zRQ} {k n k1 n1 pc : Nat} {ls : zLs} {st rest as : List Value} {L : List zSh} {μ : zMem} (hk1 : k1 ≤ k) (hn1 : n1 ≤ n)
    (hrun : ∀ (p : Program) (l : Launch) (e : Env) (R : Room) (s : State) (m : MethodId) (args : Array Value) (below : List Frame) (meth : Method) (c : Code) (b : Nat) (oa : Nat → Nat) (D : va_G) (ca : Nat → ClassId) (Z : State → Prop) (mc ms : Nat), zGood X d ((p, l, e, R, s), (m, args, below, meth, c), (b, oa, D, ca), (Z, mc, ms)) M Q → ∀ (H : Heap) (locs : List Loc) (cells slots : Nat) (lsM : Array Slot), cells + k1 ≤ R.cells ∧ slots + n1 ≤ R.slots → zRel b oa D ca L μ H → zWd b oa D ca X s H → lsM.size = M.2.2.1 →
      va_Run p l e R s m args below meth c H locs cells slots k1 n1 (F0 m pc lsM (st.map (z_tr b oa))) (rest.map (z_tr b oa)) (zQc b oa D ca Q' (as.map (z_tr b oa)).toArray) (fun q => b ≤ q))
    (h : ∀ v L' μ', Q' v L' μ' → zT X d M Q (k - k1) (n - n1) (pc + 3) ls (v.toList ++ rest) L' μ') : zT X d M Q k n pc ls st L μ := by
  intro ⟨⟨p, l, e, R, s⟩, ⟨m, args, below, meth, c⟩, ⟨b, oa, D, ca⟩, ⟨Z, mc, ms⟩⟩ G H locs cells slots lsM hk hn hR hS hL
  have hWd : zWd b oa D ca X s H := G.2.1.kept hS.1 hS.2.1
  have hrm := G.2.2.1
  intro T hT Xs
  obtain ⟨v, st₀, t, T', L2, h0, X', hL2, e1, e2, ⟨v', L', μ', hv, hQ, hRel, hF⟩, st⟩ := hrun p l e R s m args below meth c b oa D ca Z mc ms G H locs cells slots lsM ⟨by omega, by omega⟩ hR hWd hL.2.1 T hT Xs
  cases hv
  unfold va_F at hF
  rw [h0] at hF
  have hS' : va_S (fun q => b ≤ q) s.heap T'.heap (locs ++ L2) := by
    refine ⟨Nat.le_trans hS.1 (by rw [e1]; exact hF.1), fun q h1 h2 => ?_, fun q hq => ?_⟩
    · rw [e1, hF.2 q (Nat.lt_of_lt_of_le h1 hS.1) h2]
      exact hS.2.1 q h1 h2
    · rcases List.mem_append.mp hq with h | h
      · exact hS.2.2 q h
      · exact hL2 q h
  have hw := h v' L' μ' hQ ((p, l, e, R, s), (m, args, below, meth, c), (b, oa, D, ca), (Z, mc, ms)) G T'.heap (locs ++ L2) (cells + k1) (slots + n1) lsM (by omega) (by omega) (by rw [e1]; exact hRel) hS' hL
  rw [List.map_append] at hw
  have hst : v'.toList.map (z_tr b oa) = (v'.map (z_tr b oa)).toList := by cases v' <;> rfl
  rw [hst] at hw
  obtain ⟨t2, a1, b1⟩ := hw T' rfl X'
  exact ⟨t2, st t2 a1, b1⟩
theorem z_good (M : zMD) {np : Nat} (hM : zMok M np) : GoodIn tbG (z_w M) := by
  intro w hw
  rcases List.mem_cons.mp hw with rfl | hw
  · exact ⟨hM.2.1, tbG_good hM.2.1⟩
  · exact ⟨hw, tbG_good hw⟩
theorem z_blind {b : Nat} {oa : Nat → Nat} {D : va_G} {ca : Nat → ClassId} {X : zXs} {L : List zSh} {μ : zMem} {as : List Value} : FrameBlind (va_Pc (as.map (z_tr b oa)) (fun U => zWd b oa D ca X U U.heap ∧ zRel b oa D ca L μ U.heap)) :=
  fun a U g mk q => ⟨q.1, q.2.1.same (s := U) (U := U.calling g mk a) rfl, q.2.2⟩
theorem z_rest {b : Nat} {oa : Nat → Nat} : ∀ (r : List Value), ((r.map (z_tr b oa)).map fun v => v.category).sum ≤ 2 * r.length
  | [] => Nat.le_refl _
  | v :: r => by
    have := z_rest (b := b) (oa := oa) r
    have hc : (z_tr b oa v).category ≤ 2 := by cases v <;> simp [z_tr, Value.category]
    simp only [List.map_cons, List.sum_cons, List.length_cons]
    omega
/-- a static method of np parameters is called -/
def o_cS (M' : zMD) (np : Nat) : zOp := fun X d K _ k n pc ls st L μ => bif Nat.ble np st.length && Nat.ble (st.drop np).length 4 then
  1 ≤ d ∧ ∃ Q' : zRQ, zC X (d - 1) 0 0 M' (st.take np).reverse L μ Q' ∧ ∀ v L' μ', Q' v L' μ' → K k n (pc + 3) ls (v.toList ++ st.drop np) L' μ' else False
theorem z_rm {M : zMD} {X : zXs} {d : Nat} {Q : zRQ} {M' : zMD} {np : Nat} (hM : zMok M' np) {p : Program} {l : Launch} {e : Env} {R : Room} {s : State} {x : MethodId × Array Value × List Frame × Method × Code} {y : Nat × (Nat → Nat) × va_G × (Nat → ClassId)} {z : (State → Prop) × Nat × Nat} (h1 : 1 ≤ d) (G : zGood X d ((p, l, e, R, s), x, y, z) M Q) : (d - 1) + 1 ≤ R.frames ∧ 8 + (M'.2.2.1 + 11) + 64 * (d - 1) ≤ R.locals := by
  have h2 := G.2.2.1
  have h3 := hM.2.2.2.2
  omega
theorem ok_cS {M M' : zMD} {pc idx np : Nat} (hM : zMok M' np) (hd : decode M.2.1 pc = .ok (.invokestatic idx, 3)) (hs : Cond.static M'.1 ∈ tbG) (hl : Cond.methodLink M.1.cls idx M'.1 ∈ tbG) : zOk M pc (o_cS M' np) := fun X d Q k n ls st L μ h => by
  obtain ⟨hc, h1, Q', hC, h⟩ := z_cd h
  rw [Bool.and_eq_true] at hc
  have hnp := Nat.le_of_ble_eq_true hc.1
  have h4 := Nat.le_of_ble_eq_true hc.2
  refine z_call (M' := M') (rest := st.drop np) (as := (st.take np).reverse) (Nat.zero_le _) (Nat.zero_le _) (fun p l e R s m args below meth c b oa D ca Z mc ms G H locs cells slots lsM hf hR hWd hsz => ?_) h
  have hts := G.1.2.2.2.2.2.1
  exact va_runS (As := (st.take np).reverse.map (z_tr b oa)) ⟨G.1.1, G.1.2.1, G.1.2.2.2.1, G.1.2.2.2.2.1, hts⟩ (hC l b oa D ca) ⟨callB_of np hts (z_good M' hM) rfl rfl rfl (hts _ hM.2.2.1) (hts _ hl) hM.2.2.2.1 (z_rm hM h1 G), hts _ hs⟩ ⟨z_blind, fun U hU hW => ⟨rfl, by rw [hU]; exact hWd.warm hW, by rw [hU]; exact hR⟩⟩ rfl (by simp; omega) hsz (by rw [List.map_reverse, List.reverse_reverse, ← List.map_append, List.take_append_drop]) (by show 2 * 0 + _ ≤ 8; have := z_rest (b := b) (oa := oa) (st.drop np); omega) hd hf
theorem ok_cSN {M M' : zMD} {pc idx np : Nat} {host : String} (hM : zMok M' np) (hd : decode M.2.1 pc = .ok (.invokestatic idx, 3)) (hs : Cond.static M'.1 ∈ tbG) (hl : (M.1.cls, idx, M'.1, host) ∈ z_ml) : zOk M pc (o_cS M' np) := fun X d Q k n ls st L μ h => by
  obtain ⟨hc, h1, Q', hC, h⟩ := z_cd h
  rw [Bool.and_eq_true] at hc
  have hnp := Nat.le_of_ble_eq_true hc.1
  have h4 := Nat.le_of_ble_eq_true hc.2
  refine z_call (M' := M') (rest := st.drop np) (as := (st.take np).reverse) (Nat.zero_le _) (Nat.zero_le _) (fun p l e R s m args below meth c b oa D ca Z mc ms G H locs cells slots lsM hf hR hWd hsz => ?_) h
  have hts := G.1.2.2.2.2.2.1
  exact va_runSN (As := (st.take np).reverse.map (z_tr b oa)) ⟨G.1.1, G.1.2.1, G.1.2.2.2.1, G.1.2.2.2.2.1, hts⟩ (hC l b oa D ca) ⟨va_cnB np hts (z_good M' hM) rfl rfl rfl (hWd.2.1.1 _ hl) (hts _ hM.2.2.1) hM.2.2.2.1 (z_rm hM h1 G), hts _ hs, trivial⟩ ⟨z_blind, fun U hU hW => ⟨rfl, by rw [hU]; exact hWd.warm hW, by rw [hU]; exact hR⟩⟩ rfl (by simp; omega) hsz (by rw [List.map_reverse, List.reverse_reverse, ← List.map_append, List.take_append_drop]) (by show 2 * 0 + _ ≤ 8; have := z_rest (b := b) (oa := oa) (st.drop np); omega) hd hf
/-- a method of an object of class ci is called -/
def o_cV (M' : zMD) (np ci : Nat) : zOp := fun X d K _ k n pc ls st L μ => match st.drop np with
  | .ref a :: rest => bif Nat.ble rest.length 4 then
    (1 ≤ d ∧ a < 1000000 ∧ ∃ w, L[a]? = some (ci, w)) ∧ ∃ Q' : zRQ, zC X (d - 1) 0 0 M' (.ref a :: (st.take np).reverse) L μ Q' ∧ ∀ v L' μ', Q' v L' μ' → K k n (pc + 3) ls (v.toList ++ rest) L' μ' else False
  | _ => False
theorem z_recv {b : Nat} {oa : Nat → Nat} {D : va_G} {ca : Nat → ClassId} {L : List zSh} {μ : zMem} {H : Heap} {U : State} {X : zXs} {a ci w : Nat} {C : String} {T : u_T} {N : Nat} (hc : clT[ci]? = some (C, T, N)) (hw : L[a]? = some (ci, w)) (hR : zRel b oa D ca L μ H) (hWd : zWd b oa D ca X U H) : ∃ cellB : Cell, H[b + a]? = some cellB ∧ cellB.vm.isStatics = false ∧ U.vm.findClass C = some cellB.cls :=
  va_recv hWd.1 hR.1 hc ((z_ws_get hw).trans (congrArg some (congrArg (Prod.mk (b + a)) (z_ent_o (z_cls hc).1))))
theorem ok_cV {M M' : zMD} {pc idx np ci : Nat} {T : u_T} {N : Nat} (hc : clT[ci]? = some (M'.1.cls, T, N)) (hM : zMok M' np) (hd : decode M.2.1 pc = .ok (.invokevirtual idx, 3)) (hi : Cond.instanceMethod M'.1 ∈ tbG) (hs : Cond.selects M'.1.cls M'.1 M'.1 ∈ tbG) (hl : Cond.methodLink M.1.cls idx M'.1 ∈ tbG) : zOk M pc (o_cV M' np ci) := fun X d Q k n ls st L μ h => by
  unfold o_cV at h
  split at h
  · rename_i a rest hdr
    obtain ⟨h4, ⟨h1, ha, w, hw⟩, Q', hC, h⟩ := z_cd h
    have h4 := Nat.le_of_ble_eq_true h4
    have hlen : np + (rest.length + 1) = st.length := by
      have := congrArg List.length hdr
      simp at this
      omega
    have hst : st = st.take np ++ .ref a :: rest := by rw [← hdr, List.take_append_drop]
    refine z_call (M' := M') (rest := rest) (as := .ref a :: (st.take np).reverse) (Nat.zero_le _) (Nat.zero_le _) (fun p l e R s m args below meth c b oa D ca Z mc ms G H locs cells slots lsM hf hR hWd hsz => ?_) h
    have hts := G.1.2.2.2.2.2.1
    have hta : z_tr b oa (.ref a) = .ref (b + a) := congrArg Value.ref (z_ta_in ha)
    have hM1 := hC l b oa D ca
    rw [List.map_cons, hta] at hM1 ⊢
    refine va_runV (b := b + a) (C := M'.1.cls) (As := (st.take np).reverse.map (z_tr b oa)) ⟨G.1.1, G.1.2.1, G.1.2.2.2.1, G.1.2.2.2.2.1, hts⟩ hM1 ⟨callB_of np hts (z_good M' hM) rfl rfl rfl (hts _ hM.2.2.1) (hts _ hl) hM.2.2.2.1 (z_rm hM h1 G), hts _ hi, hts _ hs⟩ ⟨?_, z_recv hc hw hR hWd, fun U hU hW => ⟨rfl, by rw [hU]; exact hWd.warm hW, by rw [hU]; exact hR⟩⟩ rfl (by simp; omega) hsz ?_ (by show 2 * 0 + _ ≤ 8; have := z_rest (b := b) (oa := oa) rest; omega) hd hf
    · have := z_blind (b := b) (oa := oa) (D := D) (ca := ca) (X := X) (L := L) (μ := μ) (as := .ref a :: (st.take np).reverse)
      rw [List.map_cons, hta] at this
      exact this
    · show st.map (z_tr b oa) = _
      rw [List.map_reverse, List.reverse_reverse, ← hta, ← List.map_cons, ← List.map_append, ← hst]
  · exact h.elim
