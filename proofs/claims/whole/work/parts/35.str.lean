/-! String constants: the references 1000010 + i, their bytes' 1000030 + i -/
theorem z_ta_s {b : Nat} {oa : Nat → Nat} {i : Nat} : z_ta b oa (1000010 + i) = oa (10 + i) := by
  rw [z_ta_out (by omega), show 1000010 + i - 1000000 = 10 + i by omega]
theorem z_ta_b {b : Nat} {oa : Nat → Nat} {i : Nat} : z_ta b oa (1000030 + i) = oa (30 + i) := by
  rw [z_ta_out (by omega), show 1000030 + i - 1000000 = 30 + i by omega]
def o_ldcS (i : Nat) : zOp := fun _ _ K _ k n pc ls st L μ => K k n (pc + 2) ls (.ref (1000010 + i) :: st) L μ
theorem ok_ldcS {M : zMD} {pc i idx : Nat} {tx : String} (hi : z_sk[i]? = some (idx, tx)) (hc : M.1.cls = "ShadowTax$Reader") (hd : decode M.2.1 pc = .ok (.ldc idx, 2)) : zOk M pc (o_ldcS i) := fun X d Q k n ls st L μ h => by
  refine z_go (fun p l e R s m args below meth c b oa D ca Z mc ms G H locs cells slots lsM hk hn hR hS hL w => ?_) h
  have w : W p l e R s m args below meth c H locs cells slots Z (F0 m (pc + 2) lsM (.ref (z_ta b oa (1000010 + i)) :: st.map (z_tr b oa))) := w
  rw [z_ta_s] at w
  have hown := G.1.2.2.2.2.1
  rw [hc] at hown
  exact va_ldcS G.1.1 G.1.2.1 hown (G.2.1.2.1.2.2.2 i _ hi) hd w
def o_gfv : zOp := fun _ _ K _ k n pc ls st L μ => match st with
  | .ref a :: st' => ∃ i, (i < 12 ∧ a = 1000010 + i) ∧ K k n (pc + 3) ls (.ref (1000030 + i) :: st') L μ
  | _ => False
theorem ok_gfv {M : zMD} {pc idx : Nat} (hd : decode M.2.1 pc = .ok (.getfield idx, 3)) (hl : Cond.fieldLink M.1.cls idx "java/lang/String" "value" "[B" ∈ tbG) : zOk M pc o_gfv := fun X d Q k n ls st L μ h => match st, h with
  | .ref a :: st', h => by
    obtain ⟨i, ⟨hi, rfl⟩, h⟩ := h
    refine z_go (fun p l e R s m args below meth c b oa D ca Z mc ms G H locs cells slots lsM hk hn hR hS hL w => ?_) h
    have w : W p l e R s m args below meth c H locs cells slots Z (F0 m (pc + 3) lsM (.ref (z_ta b oa (1000030 + i)) :: st'.map (z_tr b oa))) := w
    show W p l e R s m args below meth c H locs cells slots Z (F0 m pc lsM (.ref (z_ta b oa (1000010 + i)) :: _))
    rw [z_ta_s]
    rw [z_ta_b] at w
    exact vk_getf G.1.1 G.1.2.1 (G.2.1.2.2.1.2.2.2.2.2.2.1 i hi).2.2.1 hS G.1.2.2.2.2.1 (G.1.2.2.2.2.2.1 _ hl) (fun _ q => q) hd w
def o_gfc : zOp := fun _ _ K _ k n pc ls st L μ => match st with
  | .ref a :: st' => ∃ i, (i < 12 ∧ a = 1000010 + i) ∧ K k n (pc + 3) ls (.int 0 :: st') L μ
  | _ => False
theorem ok_gfc {M : zMD} {pc idx : Nat} (hd : decode M.2.1 pc = .ok (.getfield idx, 3)) (hl : Cond.fieldLink M.1.cls idx "java/lang/String" "coder" "B" ∈ tbG) : zOk M pc o_gfc := fun X d Q k n ls st L μ h => match st, h with
  | .ref a :: st', h => by
    obtain ⟨i, ⟨hi, rfl⟩, h⟩ := h
    refine z_go (fun p l e R s m args below meth c b oa D ca Z mc ms G H locs cells slots lsM hk hn hR hS hL w => ?_) h
    show W p l e R s m args below meth c H locs cells slots Z (F0 m pc lsM (.ref (z_ta b oa (1000010 + i)) :: _))
    rw [z_ta_s]
    exact vk_getf G.1.1 G.1.2.1 (G.2.1.2.2.1.2.2.2.2.2.2.1 i hi).2.1 hS G.1.2.2.2.2.1 (G.1.2.2.2.2.2.1 _ hl) (fun _ q => q) hd w
def o_blen : zOp := fun _ _ K _ k n pc ls st L μ => match st with
  | .ref a :: st' => ∃ i, (i < 12 ∧ a = 1000030 + i) ∧ K k n (pc + 1) ls (.int (nI (z_sl.getD i 0)) :: st') L μ
  | _ => False
theorem ok_blen {M : zMD} {pc : Nat} (hd : decode M.2.1 pc = .ok (.arraylength, 1)) : zOk M pc o_blen := fun X d Q k n ls st L μ h => match st, h with
  | .ref a :: st', h => by
    obtain ⟨i, ⟨hi, rfl⟩, h⟩ := h
    refine z_go (fun p l e R s m args below meth c b oa D ca Z mc ms G H locs cells slots lsM hk hn hR hS hL w => ?_) h
    show W p l e R s m args below meth c H locs cells slots Z (F0 m pc lsM (.ref (z_ta b oa (1000030 + i)) :: _))
    rw [z_ta_b]
    exact va_tlen G.1.1 G.1.2.1 (G.2.1.2.2.1.2.2.2.2.2.2.1 i hi).2.2.2 hS rfl hd w
def o_bld : zOp := fun _ _ K _ k n pc ls st L μ => match st with
  | .int x :: .ref a :: st' => ∃ i j, (i < 12 ∧ a = 1000030 + i ∧ x = nI j ∧ j < z_sl.getD i 0) ∧ K k n (pc + 1) ls (.int ((z_sb.getD i []).getD j 0) :: st') L μ
  | _ => False
theorem z_sl_b : ∀ i, i < 12 → z_sl.getD i 0 ≤ 6 := by decide
theorem ok_bld {M : zMD} {pc : Nat} (hd : decode M.2.1 pc = .ok (.baload, 1)) : zOk M pc o_bld := fun X d Q k n ls st L μ h => match st, h with
  | .int x :: .ref a :: st', h => by
    obtain ⟨i, j, ⟨hi, rfl, rfl, hj⟩, h⟩ := h
    have := z_sl_b i hi
    refine z_go (fun p l e R s m args below meth c b oa D ca Z mc ms G H locs cells slots lsM hk hn hR hS hL w => ?_) h
    show W p l e R s m args below meth c H locs cells slots Z (F0 m pc lsM (.int (nI j) :: .ref (z_ta b oa (1000030 + i)) :: _))
    rw [z_ta_b]
    exact va_tb G.1.1 G.1.2.1 (G.2.1.2.2.1.2.2.2.2.2.2.1 i hi).2.2.2 hS (vp_in_nI hj (by omega)) (by rw [nI_clamp (by omega)]; rfl) hd w
def o_gCS : zOp := fun _ _ K _ k n pc ls st L μ => K k n (pc + 3) ls (.int 1 :: st) L μ
theorem ok_gCS {M : zMD} {pc idx : Nat} (hd : decode M.2.1 pc = .ok (.getstatic idx, 3)) (hl : Cond.fieldLink M.1.cls idx "java/lang/String" "COMPACT_STRINGS" "Z" ∈ tbG) : zOk M pc o_gCS := fun X d Q k n ls st L μ h => by
  refine z_go (fun p l e R s m args below meth c b oa D ca Z mc ms G H locs cells slots lsM hk hn hR hS hL w => ?_) h
  exact va_gets G.1.1 G.1.2.1 G.2.1.2.2.1.2.2.2.2.1 hS G.1.2.2.2.2.1 (G.1.2.2.2.2.2.1 _ hl) (fun _ q => q) hd w
def o_gSI : zOp := fun _ _ K _ k n pc ls st L μ => K k n (pc + 3) ls (.null :: st) L μ ∧ K k n (pc + 3) ls (.ref 1000099 :: st) L μ
theorem ok_gSI {M : zMD} {pc idx : Nat} (hd : decode M.2.1 pc = .ok (.getstatic idx, 3)) (hl : Cond.fieldLink M.1.cls idx "jdk/internal/util/Preconditions" "SIOOBE_FORMATTER" "Ljava/util/function/BiFunction;" ∈ tbG) : zOk M pc o_gSI := fun X d Q k n ls st L μ h => by
  intro ⟨⟨p, l, e, R, s⟩, ⟨m, args, below, meth, c⟩, ⟨b, oa, D, ca⟩, ⟨Z, mc, ms⟩⟩ G H locs cells slots lsM hk hn hR hS hL
  rcases G.2.1.2.2.1.2.2.2.2.2.1 with hz | hz
  · exact va_gets G.1.1 G.1.2.1 hz hS G.1.2.2.2.2.1 (G.1.2.2.2.2.2.1 _ hl) (fun _ q => q) hd (h.1 _ G H locs cells slots lsM hk hn hR hS hL)
  · refine va_gets G.1.1 G.1.2.1 hz hS G.1.2.2.2.2.1 (G.1.2.2.2.2.2.1 _ hl) (fun _ q => q) hd ?_
    have w : W p l e R s m args below meth c H locs cells slots Z (F0 m (pc + 3) lsM (.ref (z_ta b oa 1000099) :: st.map (z_tr b oa))) := h.2 _ G H locs cells slots lsM hk hn hR hS hL
    rw [z_ta_out (by decide)] at w
    exact w
/-- a call on a String constant -/
def o_cVs (M' : zMD) (np : Nat) : zOp := fun X d K _ k n pc ls st L μ => match st.drop np with
  | .ref a :: rest => bif Nat.ble rest.length 4 then
    (1 ≤ d ∧ ∃ i, i < 12 ∧ a = 1000010 + i) ∧ ∃ Q' : zRQ, zC X (d - 1) 0 0 M' (.ref a :: (st.take np).reverse) L μ Q' ∧ ∀ v L' μ', Q' v L' μ' → K k n (pc + 3) ls (v.toList ++ rest) L' μ' else False
  | _ => False
theorem ok_cVs {M M' : zMD} {pc idx np : Nat} (hc : M'.1.cls = "java/lang/String") (hM : zMok M' np) (hd : decode M.2.1 pc = .ok (.invokevirtual idx, 3)) (hi : Cond.instanceMethod M'.1 ∈ tbG) (hs : Cond.selects M'.1.cls M'.1 M'.1 ∈ tbG) (hl : Cond.methodLink M.1.cls idx M'.1 ∈ tbG) : zOk M pc (o_cVs M' np) := fun X d Q k n ls st L μ h => by
  unfold o_cVs at h
  split at h
  · rename_i a rest hdr
    obtain ⟨h4, ⟨h1, i, hi12, ha⟩, Q', hC, h⟩ := z_cd h
    have h4 := Nat.le_of_ble_eq_true h4
    have hlen : np + (rest.length + 1) = st.length := by
      have := congrArg List.length hdr
      simp at this
      omega
    have hst : st = st.take np ++ .ref a :: rest := by rw [← hdr, List.take_append_drop]
    refine z_call (M' := M') (rest := rest) (as := .ref a :: (st.take np).reverse) (Nat.zero_le _) (Nat.zero_le _) (fun p l e R s m args below meth c b oa D ca Z mc ms G H locs cells slots lsM hf hR hWd hsz => ?_) h
    have hts := G.1.2.2.2.2.2.1
    have hta : z_tr b oa (.ref a) = .ref (oa (10 + i)) := by rw [ha]; exact congrArg Value.ref z_ta_s
    have hM1 := hC l b oa D ca
    rw [List.map_cons, hta] at hM1 ⊢
    have hrc : ∃ cellB : Cell, H[oa (10 + i)]? = some cellB ∧ cellB.vm.isStatics = false ∧ s.vm.findClass M'.1.cls = some cellB.cls := by
      obtain ⟨cell, h1, h2, h3, -⟩ := (hWd.2.2.1.2.2.2.2.2.2.1 i hi12).1
      exact ⟨cell, h1, h2, by rw [hc]; exact h3⟩
    refine va_runV (b := oa (10 + i)) (C := M'.1.cls) (As := (st.take np).reverse.map (z_tr b oa)) ⟨G.1.1, G.1.2.1, G.1.2.2.2.1, G.1.2.2.2.2.1, hts⟩ hM1 ⟨callB_of np hts (z_good M' hM) rfl rfl rfl (hts _ hM.2.2.1) (hts _ hl) hM.2.2.2.1 (z_rm hM h1 G), hts _ hi, hts _ hs⟩ ⟨?_, hrc, fun U hU hW => ⟨rfl, by rw [hU]; exact hWd.warm hW, by rw [hU]; exact hR⟩⟩ rfl (by simp; omega) hsz ?_ (by show 2 * 0 + _ ≤ 8; have := z_rest (b := b) (oa := oa) rest; omega) hd hf
    · have := z_blind (b := b) (oa := oa) (D := D) (ca := ca) (X := X) (L := L) (μ := μ) (as := .ref a :: (st.take np).reverse)
      rw [List.map_cons, hta] at this
      exact this
    · show st.map (z_tr b oa) = _
      rw [List.map_reverse, List.reverse_reverse, ← hta, ← List.map_cons, ← List.map_append, ← hst]
  · exact h.elim
