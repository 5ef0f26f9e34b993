/-! calls, and contracts out of walks -/
def z_en : Nat → List Value → zLs
  | n, [] => List.replicate n none
  | n, .long x :: vs => some (.long x) :: none :: z_en (n - 2) vs
  | n, v :: vs => some v :: z_en (n - 1) vs
def z_cs : List Value → Nat
  | [] => 0
  | .long _ :: vs => z_cs vs + 2
  | _ :: vs => z_cs vs + 1
/-- no double among them -/
def z_nv (vs : List Value) : Bool := vs.all (fun v => match v with
  | .double _ => false
  | _ => true)
theorem z_nv_c {v : Value} {vs : List Value} (h : z_nv (v :: vs) = true) : z_nv vs = true := by
  unfold z_nv at h
  rw [List.all_cons, Bool.and_eq_true] at h
  exact h.2
theorem z_en_len : ∀ (vs : List Value) (n : Nat), z_cs vs ≤ n → (z_en n vs).length = n
  | [], n, _ => List.length_replicate
  | .long x :: vs, n, h => by
    have h : z_cs vs + 2 ≤ n := h
    show (z_en (n - 2) vs).length + 1 + 1 = n
    rw [z_en_len vs (n - 2) (by omega)]
    omega
  | .int x :: vs, n, h => by
    have h : z_cs vs + 1 ≤ n := h
    show (z_en (n - 1) vs).length + 1 = n
    rw [z_en_len vs (n - 1) (by omega)]
    omega
  | .float x :: vs, n, h => by
    have h : z_cs vs + 1 ≤ n := h
    show (z_en (n - 1) vs).length + 1 = n
    rw [z_en_len vs (n - 1) (by omega)]
    omega
  | .double x :: vs, n, h => by
    have h : z_cs vs + 1 ≤ n := h
    show (z_en (n - 1) vs).length + 1 = n
    rw [z_en_len vs (n - 1) (by omega)]
    omega
  | .null :: vs, n, h => by
    have h : z_cs vs + 1 ≤ n := h
    show (z_en (n - 1) vs).length + 1 = n
    rw [z_en_len vs (n - 1) (by omega)]
    omega
  | .ref x :: vs, n, h => by
    have h : z_cs vs + 1 ≤ n := h
    show (z_en (n - 1) vs).length + 1 = n
    rw [z_en_len vs (n - 1) (by omega)]
    omega
  | .retAddr x :: vs, n, h => by
    have h : z_cs vs + 1 ≤ n := h
    show (z_en (n - 1) vs).length + 1 = n
    rw [z_en_len vs (n - 1) (by omega)]
    omega
theorem z_en_one {b : Nat} {oa : Nat → Nat} {v : Value} {vs : List Value} {n i : Nat} (hv : v.category = 1) (he : z_en n (v :: vs) = some v :: z_en (n - 1) vs) (ih : ∀ (m : Nat) (j : Nat) (w : Value), (z_en (n - 1) vs)[j]? = some (some w) → (m + j, z_tr b oa w) ∈ lv_args m (vs.map (z_tr b oa))) (j : Nat) (w : Value) (h : (z_en n (v :: vs))[j]? = some (some w)) : (i + j, z_tr b oa w) ∈ lv_args i ((v :: vs).map (z_tr b oa)) := by
  rw [he] at h
  show (i + j, z_tr b oa w) ∈ (i, z_tr b oa v) :: lv_args (if (z_tr b oa v).category = 2 then i + 2 else i + 1) (vs.map (z_tr b oa))
  rw [if_neg (by rw [z_tr_cat, hv]; decide)]
  cases j with
  | zero => cases h; exact List.mem_cons_self
  | succ j =>
    have h : (z_en (n - 1) vs)[j]? = some (some w) := h
    have := ih (i + 1) j w h
    rw [show i + 1 + j = i + (j + 1) by omega] at this
    exact List.mem_cons_of_mem _ this
theorem z_en_mem (b : Nat) (oa : Nat → Nat) : ∀ (vs : List Value) (n i j : Nat) (w : Value), z_nv vs = true → (z_en n vs)[j]? = some (some w) → (i + j, z_tr b oa w) ∈ lv_args i (vs.map (z_tr b oa))
  | [], n, i, j, w, _, h => by
    have h : (List.replicate n (none : Option Value))[j]? = some (some w) := h
    rw [List.getElem?_replicate] at h
    split at h <;> cases h
  | .long x :: vs, n, i, j, w, hn, h => by
    have hn : z_nv vs = true := (z_nv_c hn)
    show (i + j, z_tr b oa w) ∈ (i, Value.long x) :: lv_args (i + 2) (vs.map (z_tr b oa))
    match j, h with
    | 0, h => cases h; exact List.mem_cons_self
    | 1, h => cases h
    | j + 2, h =>
      have h : (z_en (n - 2) vs)[j]? = some (some w) := h
      have := z_en_mem b oa vs (n - 2) (i + 2) j w hn h
      rw [show i + 2 + j = i + (j + 2) by omega] at this
      exact List.mem_cons_of_mem _ this
  | .int x :: vs, n, i, j, w, hn, h => z_en_one rfl rfl (fun m j w q => z_en_mem b oa vs (n - 1) m j w (z_nv_c hn) q) j w h
  | .float x :: vs, n, i, j, w, hn, h => z_en_one rfl rfl (fun m j w q => z_en_mem b oa vs (n - 1) m j w (z_nv_c hn) q) j w h
  | .double x :: vs, n, i, j, w, hn, h => by simp [z_nv] at hn
  | .null :: vs, n, i, j, w, hn, h => z_en_one rfl rfl (fun m j w q => z_en_mem b oa vs (n - 1) m j w (z_nv_c hn) q) j w h
  | .ref x :: vs, n, i, j, w, hn, h => z_en_one rfl rfl (fun m j w q => z_en_mem b oa vs (n - 1) m j w (z_nv_c hn) q) j w h
  | .retAddr x :: vs, n, i, j, w, hn, h => z_en_one rfl rfl (fun m j w q => z_en_mem b oa vs (n - 1) m j w (z_nv_c hn) q) j w h
theorem z_sl_len (b : Nat) (oa : Nat → Nat) : ∀ (vs : List Value), z_nv vs = true → (lg_sl (vs.map (z_tr b oa))).length = z_cs vs
  | [], _ => rfl
  | .long x :: vs, h => by
    have := z_sl_len b oa vs (z_nv_c h)
    simp [lg_sl, z_tr, Value.category, z_cs] at this ⊢
    omega
  | .int x :: vs, h => by
    have := z_sl_len b oa vs (z_nv_c h)
    simp [lg_sl, z_tr, Value.category, z_cs] at this ⊢
    omega
  | .float x :: vs, h => by
    have := z_sl_len b oa vs (z_nv_c h)
    simp [lg_sl, z_tr, Value.category, z_cs] at this ⊢
    omega
  | .double x :: vs, h => by simp [z_nv] at h
  | .null :: vs, h => by
    have := z_sl_len b oa vs (z_nv_c h)
    simp [lg_sl, z_tr, Value.category, z_cs] at this ⊢
    omega
  | .ref x :: vs, h => by
    have := z_sl_len b oa vs (z_nv_c h)
    simp [lg_sl, z_tr, Value.category, z_cs] at this ⊢
    omega
  | .retAddr x :: vs, h => by
    have := z_sl_len b oa vs (z_nv_c h)
    simp [lg_sl, z_tr, Value.category, z_cs] at this ⊢
    omega
/-- what the tables say of a method of np parameters -/
def zMok (M : zMD) (np : Nat) : Prop := plainName M.1.cls = true ∧ Cond.code M.1 M.2.1 M.2.2.1 M.2.2.2 ∈ tbG ∧ Cond.initialized M.1.cls ∈ tbG ∧ (M.1.cls ≠ "java/lang/invoke/MethodHandle" ∧ M.1.cls ≠ "java/lang/invoke/VarHandle" ∧ (parseMethodDescriptor M.1.desc).map (fun d => d.parameters.length) = some np) ∧ M.2.2.1 ≤ 45
theorem zC.of {X : zXs} {d k n np : Nat} {M : zMD} {as : List Value} {L : List zSh} {μ : zMem} {Q : zRQ} (hM : zMok M np) (hcs : (Nat.ble (z_cs as) M.2.2.1 && z_nv as) = true) (h : zT X d M Q k n 0 (z_en M.2.2.1 as) [] L μ) : zC X d k n M as L μ Q := by
  intro l b oa D ca
  rw [Bool.and_eq_true] at hcs
  have hle : z_cs as ≤ M.2.2.1 := Nat.le_of_ble_eq_true hcs.1
  refine Met.ofW (cc := M.2.1) (maxL := M.2.2.1) (ret := M.2.2.2) hM.1 rfl ?_
  intro p e s m args below meth c s₁ B hml hv
  obtain ⟨rfl, hWd, hR⟩ := hv
  have hts := atoms_spec (ws := z_w M) B.pre
  have hl := lv_entry (as.map (z_tr b oa)) (n := M.2.2.1) (by rw [z_sl_len b oa as hcs.2]; exact hle)
  rw [lg_entry_eq]
  refine h ((p, l, e, { frames := d, cells := k, slots := n, locals := 64 * d }, s), (m, (as.map (z_tr b oa)).toArray, below, meth, c), (b, oa, D, ca), (MQ below (zQc b oa D ca Q) (as.map (z_tr b oa)).toArray s k n (fun q => b ≤ q), k, n)) ⟨⟨B.exec, B.bytes, B.returns, hml, findClass_of_methodNamed B.named, fun w hw => hts w (List.mem_cons_of_mem _ hw), B.notSynchronized, fun q => (name_of_methodNamed B.named B.method).1.trans q⟩, hWd, ⟨Nat.le_refl _, Nat.le_refl _, Nat.le_refl _, Nat.le_refl _⟩, ?_⟩ s.heap [] 0 0 _ (by omega) (by omega) hR va_S.rf ⟨z_en_len as _ hle, hl.1, hl.2.1, fun j w hw => ?_⟩
  · intro v L' μ' H locs cells slots pc lsM hQ hRel hS hc hs hret
    refine W.widen hc hs ?_
    rcases hret with ⟨hd, rfl, hr⟩ | ⟨x, ty, hd, rfl, hr, hnar⟩ | ⟨x, hd, rfl, hr⟩
    · exact W.vret B.exec B.bytes (B.returns.trans hr) (fun t ht hW => ⟨none, L', μ', rfl, hQ, by rw [ht]; exact hRel, hS.F ht⟩) hS.2.2 hd B.notSynchronized
    · exact W.zret B.exec B.bytes (B.returns.trans hr) hnar (fun t ht hW => ⟨some (.int x), L', μ', rfl, hQ, by rw [ht]; exact hRel, hS.F ht⟩) hS.2.2 hd B.notSynchronized
    · exact W.lret B.exec B.bytes (B.returns.trans hr) (fun t ht hW => ⟨some (.long x), L', μ', rfl, hQ, by rw [ht]; exact hRel, hS.F ht⟩) hS.2.2 hd B.notSynchronized
  · have := z_en_mem b oa as M.2.2.1 0 j w hcs.2 hw
    rw [Nat.zero_add] at this
    exact hl.2.2 _ this
/-- weaker ends, more room -/
theorem zT.mono {X : zXs} {d d' : Nat} {M : zMD} {Q Q' : zRQ} {k n pc : Nat} {ls : zLs} {st : List Value} {L : List zSh} {μ : zMem} (hQ : ∀ v L μ, Q v L μ → Q' v L μ) (hd : d ≤ d') (h : zT X d M Q k n pc ls st L μ) : zT X d' M Q' k n pc ls st L μ := by
  intro ⟨⟨p, l, e, R, s⟩, ⟨m, args, below, meth, c⟩, ⟨b, oa, D, ca⟩, ⟨Z, mc, ms⟩⟩ G
  exact h ((p, l, e, R, s), (m, args, below, meth, c), (b, oa, D, ca), (Z, mc, ms)) ⟨G.1, G.2.1, ⟨Nat.le_trans hd G.2.2.1.1, Nat.le_trans (Nat.mul_le_mul_left 64 hd) G.2.2.1.2.1, G.2.2.1.2.2⟩, fun v L μ H locs cells slots pc lsM q => G.2.2.2 v L μ H locs cells slots pc lsM (hQ v L μ q)⟩
theorem zC.mono {X : zXs} {d k n : Nat} {M : zMD} {as : List Value} {L : List zSh} {μ : zMem} {Q Q' : zRQ} (hQ : ∀ v L μ, Q v L μ → Q' v L μ) (h : zC X d k n M as L μ Q) : zC X d k n M as L μ Q' := by
  intro l b oa D ca
  have h1 := h l b oa D ca
  unfold Met at h1 ⊢
  refine MetFree.weaken h1 ?_
  sorry
/-- behind a call -/
theorem z_call {M M' : zMD} {X : zXs} {d : Nat} {Q Q' : zRQ} {k n k1 n1 pc : Nat} {ls : zLs} {st rest as : List Value} {L : List zSh} {μ : zMem} (hk1 : k1 ≤ k) (hn1 : n1 ≤ n)
    (hrun : ∀ (p : Program) (l : Launch) (e : Env) (R : Room) (s : State) (m : MethodId) (args : Array Value) (below : List Frame) (meth : Method) (c : Code) (b : Nat) (oa : Nat → Nat) (D : va_G) (ca : Nat → ClassId) (Z : State → Prop) (mc ms : Nat), zGood X d ((p, l, e, R, s), (m, args, below, meth, c), (b, oa, D, ca), (Z, mc, ms)) M Q → ∀ (H : Heap) (locs : List Loc) (cells slots : Nat) (lsM : Array Slot), cells + k1 ≤ R.cells ∧ slots + n1 ≤ R.slots → zRel b oa D ca L μ H → zWd b oa D ca X s H → lsM.size = M.2.2.1 →
      va_Run p l e R s m args below meth c H locs cells slots k1 n1 (F0 m pc lsM (st.map (z_tr b oa))) (rest.map (z_tr b oa)) (zQc b oa D ca Q' (as.map (z_tr b oa)).toArray) (fun q => b ≤ q))
    (h : ∀ v L' μ', Q' v L' μ' → zT X d M Q (k - k1) (n - n1) (pc + 3) ls (v.toList ++ rest) L' μ') : zT X d M Q k n pc ls st L μ := by
  intro ⟨⟨p, l, e, R, s⟩, ⟨m, args, below, meth, c⟩, ⟨b, oa, D, ca⟩, ⟨Z, mc, ms⟩⟩ G H locs cells slots lsM hk hn hR hS hL
  have hWd : zWd b oa D ca X s H := G.2.1.kept hS.1 hS.2.1
  have hrm := G.2.2.1
  intro T hT Xs
  obtain ⟨v, st₀, t, T', L2, h0, X', hL2, e1, e2, ⟨v', L', μ', hv, hQ, hRel, hF⟩, st⟩ := hrun p l e R s m args below meth c b oa D ca Z mc ms G H locs cells slots lsM ⟨by omega, by omega⟩ hR hWd hL.2.1 T hT Xs
  cases hv
  rw [h0] at hF
  have hS' : va_S (fun q => b ≤ q) s.heap T'.heap (locs ++ L2) := by
    refine ⟨Nat.le_trans hS.1 (by rw [e1]; exact hF.1), fun q h1 h2 => ?_, fun q hq => ?_⟩
    · rw [e1, hF.2 q (Nat.lt_of_lt_of_le h1 hS.1) h2]
      exact hS.2.1 q h1 h2
    · rcases List.mem_append.mp hq with h | h
      · exact hS.2.2 q h
      · exact hL2 q h
  have hw := h v' L' μ' hQ ((p, l, e, R, s), (m, args, below, meth, c), (b, oa, D, ca), (Z, mc, ms)) G T'.heap (locs ++ L2) (cells + k1) (slots + n1) lsM (by omega) (by omega) (by rw [e1]; exact hRel) hS' hL
  rw [List.map_append] at hw
  have hst : v'.toList.map (z_tr b oa) = (v'.map (z_tr b oa)).toList := by cases v' <;> rfl
  rw [hst] at hw
  obtain ⟨t2, a1, b1⟩ := hw T' rfl X'
  exact ⟨t2, st t2 a1, b1⟩
