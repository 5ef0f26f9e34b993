/-! arrays, with the index as a natural number -/
def z_ij (t : Nat) (L : List zSh) (a : Nat) (i : Int32) (j : Nat) : Prop := i = nI j ∧ a < 1000000 ∧ ∃ N, L[a]? = some (t, N) ∧ j < N ∧ N ≤ 1000000
theorem z_ij_in {t : Nat} {L : List zSh} {a : Nat} {i : Int32} {j : Nat} (h : z_ij t L a i j) : z_in t L a i ∧ i.toNatClampNeg = j := by
  obtain ⟨rfl, ha, N, hL, hj, hN⟩ := h
  exact ⟨⟨ha, N, hL, vp_in_nI hj (by omega)⟩, nI_clamp (by omega)⟩
def o_ialn : zOp := fun _ _ K _ k n pc ls st L μ => match st with
  | .int i :: .ref a :: st' => ∃ j, z_ij 10 L a i j ∧ K k n (pc + 1) ls (.int (μ.1 a j) :: st') L μ
  | _ => False
theorem ok_ialn {M : zMD} {pc : Nat} (hd : decode M.2.1 pc = .ok (.iaload, 1)) : zOk M pc o_ialn := fun X d Q k n ls st L μ h => match st, h with
  | .int i :: .ref a :: st', h => by
    obtain ⟨j, hj, h⟩ := h
    obtain ⟨h1, rfl⟩ := z_ij_in hj
    exact ok_iald hd X d Q k n ls _ L μ ⟨h1, h⟩
def o_zaln : zOp := fun _ _ K _ k n pc ls st L μ => match st with
  | .int i :: .ref a :: st' => ∃ j, z_ij 11 L a i j ∧ K k n (pc + 1) ls (.int (μ.1 a j) :: st') L μ
  | _ => False
theorem ok_zaln {M : zMD} {pc : Nat} (hd : decode M.2.1 pc = .ok (.baload, 1)) : zOk M pc o_zaln := fun X d Q k n ls st L μ h => match st, h with
  | .int i :: .ref a :: st', h => by
    obtain ⟨j, hj, h⟩ := h
    obtain ⟨h1, rfl⟩ := z_ij_in hj
    exact ok_zald hd X d Q k n ls _ L μ ⟨h1, h⟩
def o_aaln (t : Nat) : zOp := fun _ _ K _ k n pc ls st L μ => match st with
  | .int i :: .ref a :: st' => ∃ j, z_ij t L a i j ∧ K k n (pc + 1) ls (z_rv (μ.2.2 a j) :: st') L μ
  | _ => False
theorem ok_aaln {M : zMD} {pc t : Nat} (ht : t = 22 ∨ t = 23 ∨ t = 25) (hd : decode M.2.1 pc = .ok (.aaload, 1)) : zOk M pc (o_aaln t) := fun X d Q k n ls st L μ h => match st, h with
  | .int i :: .ref a :: st', h => by
    obtain ⟨j, hj, h⟩ := h
    obtain ⟨h1, rfl⟩ := z_ij_in hj
    exact ok_aald ht hd X d Q k n ls _ L μ ⟨h1, h⟩
def o_iasn : zOp := fun _ _ K _ k n pc ls st L μ => match st with
  | .int v :: .int i :: .ref a :: st' => ∃ j, z_ij 10 L a i j ∧ K k n (pc + 1) ls st' L (z_sI μ a j v)
  | _ => False
theorem ok_iasn {M : zMD} {pc : Nat} (hd : decode M.2.1 pc = .ok (.iastore, 1)) : zOk M pc o_iasn := fun X d Q k n ls st L μ h => match st, h with
  | .int v :: .int i :: .ref a :: st', h => by
    obtain ⟨j, hj, h⟩ := h
    obtain ⟨h1, rfl⟩ := z_ij_in hj
    exact ok_iast hd X d Q k n ls _ L μ ⟨h1, h⟩
def o_zasn : zOp := fun _ _ K _ k n pc ls st L μ => match st with
  | .int v :: .int i :: .ref a :: st' => ∃ j, (z_ij 11 L a i j ∧ (v = 0 ∨ v = 1)) ∧ K k n (pc + 1) ls st' L (z_sI μ a j v)
  | _ => False
theorem ok_zasn {M : zMD} {pc : Nat} (hd : decode M.2.1 pc = .ok (.bastore, 1)) : zOk M pc o_zasn := fun X d Q k n ls st L μ h => match st, h with
  | .int v :: .int i :: .ref a :: st', h => by
    obtain ⟨j, ⟨hj, hv⟩, h⟩ := h
    obtain ⟨h1, rfl⟩ := z_ij_in hj
    exact ok_zast hd X d Q k n ls _ L μ ⟨⟨h1, hv⟩, h⟩
def o_aasn (ci : Nat) : zOp := fun _ _ K _ k n pc ls st L μ => match st with
  | .ref v :: .int i :: .ref a :: st' => ∃ j, (z_ij (20 + ci) L a i j ∧ v < 1000000 ∧ ∃ w, L[v]? = some (ci, w)) ∧ K k n (pc + 1) ls st' L (z_sR μ a j (some v))
  | _ => False
theorem ok_aasn {M : zMD} {pc ci : Nat} (hci : ci = 2 ∨ ci = 3 ∨ ci = 5) (hd : decode M.2.1 pc = .ok (.aastore, 1)) : zOk M pc (o_aasn ci) := fun X d Q k n ls st L μ h => match st, h with
  | .ref v :: .int i :: .ref a :: st', h => by
    obtain ⟨j, ⟨hj, hv⟩, h⟩ := h
    obtain ⟨h1, rfl⟩ := z_ij_in hj
    exact ok_aast hci hd X d Q k n ls _ L μ ⟨⟨h1, hv⟩, h⟩
def o_oaln : zOp := fun X _ K _ k n pc ls st L μ => match st with
  | .int i :: .ref a :: st' => ∃ j, (i = nI j ∧ (1000000 ≤ a ∧ a < 1000004) ∧ j < z_on X (a - 1000000) ∧ z_on X (a - 1000000) ≤ 1000000) ∧ K k n (pc + 1) ls (.int (z_of X (a - 1000000) j) :: st') L μ
  | _ => False
theorem ok_oaln {M : zMD} {pc : Nat} (hd : decode M.2.1 pc = .ok (.iaload, 1)) : zOk M pc o_oaln := fun X d Q k n ls st L μ h => match st, h with
  | .int i :: .ref a :: st', h => by
    obtain ⟨j, ⟨rfl, ha, hj, hN⟩, h⟩ := h
    have hc : (nI j).toNatClampNeg = j := nI_clamp (by omega)
    have h2 := ok_oald hd X d Q k n ls (.int (nI j) :: .ref a :: st') L μ
    unfold o_oald at h2
    dsimp only at h2
    rw [hc] at h2
    exact h2 ⟨⟨ha, vp_in_nI hj (by omega)⟩, h⟩
