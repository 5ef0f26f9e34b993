/-! the constructors: cells are made one behind the other, at known places -/
theorem s_iThing {X : zXs} {d a : Nat} {L : List zSh} {μ : zMem} (hd : 1 ≤ d) (ha : a < 1000000) : zF X d m_X5_init [.ref a] L μ none μ := by
  refine zF.of mk_X5_init rfl ?_
  refine zT.step ct_X5_init_ok ?_
  refine zT.step ct_X5_init_ok ?_
  refine And.intro hd ?_
  refine zT.step ct_X5_init_ok ?_
  exact And.intro rfl (And.intro rfl rfl)
def mkA (μ : zMem) (n a k : Nat) : zMem := z_sR (z_zr μ n) a k (some n)
theorem app_lt {L L' : List zSh} {a : Nat} {sh : zSh} (h : L[a]? = some sh) : (L ++ L')[a]? = some sh := by
  have := (List.getElem?_eq_some_iff.mp h).1
  rw [List.getElem?_append_left this]; exact h
theorem app_len {L : List zSh} {sh : zSh} : (L ++ [sh]).length = L.length + 1 := by rw [List.length_append]; rfl
theorem s_iRule {X : zXs} {d a N w : Nat} {L : List zSh} {μ : zMem} (hd : 1 ≤ d) (ha : L[a]? = some (2, w)) (hN : L.length = N) (hN2 : N < 1000) : zC X d 2 163 m_X2_init [.ref a] L μ (fun v L2 μ2 => v = none ∧ L2 = L ++ [(10, 160), (10, 3)] ∧ μ2 = mkA (mkA μ N a 0) (N + 1) a 1) := by
  have hal : a < N := by have := (List.getElem?_eq_some_iff.mp ha).1; omega
  have hal6 : a < 1000000 := by omega
  subst hN
  refine zC.of mk_X2_init rfl ?_
  refine zT.step ct_X2_init_ok ?_
  refine zT.step ct_X2_init_ok ?_
  refine And.intro hd ?_
  refine zT.step ct_X2_init_ok ?_
  refine zT.step ct_X2_init_ok ?_
  refine zT.step ct_X2_init_ok ?_
  refine And.intro ⟨by omega, by decide, by decide, by decide, by decide⟩ ?_
  refine zT.step ct_X2_init_ok ?_
  refine And.intro ⟨hal6, w, app_lt ha⟩ ?_
  refine zT.step ct_X2_init_ok ?_
  refine zT.step ct_X2_init_ok ?_
  refine zT.step ct_X2_init_ok ?_
  refine And.intro ⟨by rw [app_len]; omega, by decide, by decide, by decide, by decide⟩ ?_
  refine zT.step ct_X2_init_ok ?_
  refine And.intro ⟨hal6, w, app_lt (app_lt ha)⟩ ?_
  refine zT.step ct_X2_init_ok ?_
  refine And.intro rfl (And.intro ?_ ?_)
  · rw [List.append_assoc]; rfl
  · rw [app_len]; rfl
theorem s_iSheet {X : zXs} {d a N w : Nat} {L : List zSh} {μ : zMem} (hd : 1 ≤ d) (ha : L[a]? = some (3, w)) (hN : L.length = N) (hN2 : N < 1000) : zC X d 1 40 m_X3_init [.ref a] L μ (fun v L2 μ2 => v = none ∧ L2 = L ++ [(10, 40)] ∧ μ2 = z_sI (mkA μ N a 0) a 1 (-1)) := by
  have hal : a < N := by have := (List.getElem?_eq_some_iff.mp ha).1; omega
  have hal6 : a < 1000000 := by omega
  subst hN
  refine zC.of mk_X3_init rfl ?_
  refine zT.step ct_X3_init_ok ?_
  refine zT.step ct_X3_init_ok ?_
  refine And.intro hd ?_
  refine zT.step ct_X3_init_ok ?_
  refine zT.step ct_X3_init_ok ?_
  refine zT.step ct_X3_init_ok ?_
  refine And.intro ⟨by omega, by decide, by decide, by decide, by decide⟩ ?_
  refine zT.step ct_X3_init_ok ?_
  refine And.intro ⟨hal6, w, app_lt ha⟩ ?_
  refine zT.step ct_X3_init_ok ?_
  refine zT.step ct_X3_init_ok ?_
  refine zT.step ct_X3_init_ok ?_
  refine And.intro ⟨hal6, w, app_lt ha⟩ ?_
  refine zT.step ct_X3_init_ok ?_
  exact And.intro rfl (And.intro rfl rfl)
theorem s_iImage {X : zXs} {d a N w : Nat} {L : List zSh} {μ : zMem} (hd : 1 ≤ d) (ha : L[a]? = some (0, w)) (hN : L.length = N) (hN2 : N < 1000) : zC X d 3 24 m_X0_init [.ref a] L μ (fun v L2 μ2 => v = none ∧ L2 = L ++ [(10, 8), (10, 8), (10, 8)] ∧ μ2 = mkA (mkA (mkA μ N a 5) (N + 1) a 6) (N + 2) a 7) := by
  have hal : a < N := by have := (List.getElem?_eq_some_iff.mp ha).1; omega
  have hal6 : a < 1000000 := by omega
  subst hN
  refine zC.of mk_X0_init rfl ?_
  refine zT.step ct_X0_init_ok ?_
  refine zT.step ct_X0_init_ok ?_
  refine And.intro hd ?_
  refine zT.step ct_X0_init_ok ?_
  refine zT.step ct_X0_init_ok ?_
  refine zT.step ct_X0_init_ok ?_
  refine And.intro ⟨by omega, by decide, by decide, by decide, by decide⟩ ?_
  refine zT.step ct_X0_init_ok ?_
  refine And.intro ⟨hal6, w, app_lt ha⟩ ?_
  refine zT.step ct_X0_init_ok ?_
  refine zT.step ct_X0_init_ok ?_
  refine zT.step ct_X0_init_ok ?_
  refine And.intro ⟨by rw [app_len]; omega, by decide, by decide, by decide, by decide⟩ ?_
  refine zT.step ct_X0_init_ok ?_
  refine And.intro ⟨hal6, w, app_lt (app_lt ha)⟩ ?_
  refine zT.step ct_X0_init_ok ?_
  refine zT.step ct_X0_init_ok ?_
  refine zT.step ct_X0_init_ok ?_
  refine And.intro ⟨by simp only [app_len]; omega, by decide, by decide, by decide, by decide⟩ ?_
  refine zT.step ct_X0_init_ok ?_
  refine And.intro ⟨hal6, w, app_lt (app_lt (app_lt ha))⟩ ?_
  refine zT.step ct_X0_init_ok ?_
  refine And.intro rfl (And.intro ?_ ?_)
  · rw [List.append_assoc, List.append_assoc]; rfl
  · simp only [app_len]; rfl
theorem s_iReader {X : zXs} {d a N w : Nat} {L : List zSh} {μ : zMem} (hd : 1 ≤ d) (ha : L[a]? = some (1, w)) (hN : L.length = N) (hN2 : N < 1000) : zC X d 1 160 m_X1_init [.ref a] L μ (fun v L2 μ2 => v = none ∧ L2 = L ++ [(10, 160)] ∧ μ2 = mkA μ N a 1) := by
  have hal : a < N := by have := (List.getElem?_eq_some_iff.mp ha).1; omega
  have hal6 : a < 1000000 := by omega
  subst hN
  refine zC.of mk_X1_init rfl ?_
  refine zT.step ct_X1_init_ok ?_
  refine zT.step ct_X1_init_ok ?_
  refine And.intro hd ?_
  refine zT.step ct_X1_init_ok ?_
  refine zT.step ct_X1_init_ok ?_
  refine zT.step ct_X1_init_ok ?_
  refine And.intro ⟨by omega, by decide, by decide, by decide, by decide⟩ ?_
  refine zT.step ct_X1_init_ok ?_
  refine And.intro ⟨hal6, w, app_lt ha⟩ ?_
  refine zT.step ct_X1_init_ok ?_
  exact And.intro rfl (And.intro rfl rfl)
/-! Rule's words at any memory -/
def uAdd (μ : zMem) (a s n : Nat) (v : Int32) : zMem := z_sI (z_sI μ s n v) a 2 (nI (n + 1))
def uEnd (μ : zMem) (a e q n : Nat) : zMem := z_sI (z_sI μ e q (nI n)) a 3 (nI (q + 1))
theorem s_addG {X : zXs} {d a s n w : Nat} {L : List zSh} {μ : zMem} {v : Int32} (ha : L[a]? = some (2, w)) (hs : L[s]? = some (10, 160)) (hr : μ.2.2 a 0 = some s) (ha2 : a < 1000000) (hs2 : s < 1000000) (has : a ≠ s) (hn : μ.1 a 2 = nI n) (h : n < 160) : zF X d m_X2_add [.ref a, .int v] L μ none (uAdd μ a s n v) := by
  have z0 : z_fv μ a 2 0 = .ref s := by show z_rv (μ.2.2 a 0) = _; rw [hr]; rfl
  have z0' : z_fv (z_sI μ s n v) a 2 0 = .ref s := z0
  refine zF.of mk_X2_add rfl ?_
  refine zT.step ct_X2_add_ok ?_
  refine zT.step ct_X2_add_ok ?_
  refine And.intro ⟨ha2, w, ha⟩ ?_
  refine zT.step ct_X2_add_ok ?_
  refine zT.step ct_X2_add_ok ?_
  refine And.intro ⟨ha2, w, ha⟩ ?_
  rw [z0]
  refine zT.step ct_X2_add_ok ?_
  refine z_alen (X := X) (d := d) (Q := fun _ _ _ => True) hs hs2 ?_
  refine zT.step ct_X2_add_ok ?_
  refine And.intro (fun q => ?_) (fun _ => ?_)
  · have q : nI 160 ≤ μ.1 a 2 := q
    rw [hn] at q
    exact absurd q (nI_ge h (by decide))
  refine zT.step ct_X2_add_ok ?_
  refine zT.step ct_X2_add_ok ?_
  refine And.intro ⟨ha2, w, ha⟩ ?_
  rw [z0]
  refine zT.step ct_X2_add_ok ?_
  refine zT.step ct_X2_add_ok ?_
  refine And.intro ⟨ha2, w, ha⟩ ?_
  refine zT.step ct_X2_add_ok ?_
  refine zT.step ct_X2_add_ok ?_
  refine Exists.intro n (And.intro ⟨hn, hs2, 160, hs, h, by decide⟩ ?_)
  refine zT.step ct_X2_add_ok ?_
  refine zT.step ct_X2_add_ok ?_
  refine zT.step ct_X2_add_ok ?_
  refine And.intro ⟨ha2, w, ha⟩ ?_
  refine zT.step ct_X2_add_ok ?_
  refine zT.step ct_X2_add_ok ?_
  refine zT.step ct_X2_add_ok ?_
  refine And.intro ⟨ha2, w, ha⟩ ?_
  refine zT.step ct_X2_add_ok ?_
  refine And.intro rfl (And.intro rfl ?_)
  show z_sI (z_sI μ s n v) a 2 (z_up μ.1 s n v a 2 + 1) = _
  rw [zu_n _ _ _ _ _ has, hn, nI_1]
  rfl
theorem s_emptyG {X : zXs} {d a w : Nat} {L : List zSh} {μ : zMem} (ha : L[a]? = some (2, w)) (ha2 : a < 1000000) : zF X d m_X2_empty [.ref a] L μ none (z_sI (z_sI μ a 2 0) a 3 0) := by
  refine zF.of mk_X2_empty rfl ?_
  refine zT.step ct_X2_empty_ok ?_
  refine zT.step ct_X2_empty_ok ?_
  refine zT.step ct_X2_empty_ok ?_
  refine And.intro ⟨ha2, w, ha⟩ ?_
  refine zT.step ct_X2_empty_ok ?_
  refine zT.step ct_X2_empty_ok ?_
  refine zT.step ct_X2_empty_ok ?_
  refine And.intro ⟨ha2, w, ha⟩ ?_
  refine zT.step ct_X2_empty_ok ?_
  exact And.intro rfl (And.intro rfl rfl)
theorem s_endPartG {X : zXs} {d a e q n w : Nat} {L : List zSh} {μ : zMem} (ha : L[a]? = some (2, w)) (he : L[e]? = some (10, 3)) (hr : μ.2.2 a 1 = some e) (ha2 : a < 1000000) (he2 : e < 1000000) (hae : a ≠ e) (hq : μ.1 a 3 = nI q) (hn : μ.1 a 2 = nI n) (h : q < 3) : zF X d m_X2_endPart [.ref a] L μ none (uEnd μ a e q n) := by
  have z1 : z_fv μ a 2 1 = .ref e := by show z_rv (μ.2.2 a 1) = _; rw [hr]; rfl
  refine zF.of mk_X2_endPart rfl ?_
  refine zT.step ct_X2_endPart_ok ?_
  refine zT.step ct_X2_endPart_ok ?_
  refine And.intro ⟨ha2, w, ha⟩ ?_
  refine zT.step ct_X2_endPart_ok ?_
  refine zT.step ct_X2_endPart_ok ?_
  refine And.intro ⟨ha2, w, ha⟩ ?_
  rw [z1]
  refine zT.step ct_X2_endPart_ok ?_
  refine z_alen (X := X) (d := d) (Q := fun _ _ _ => True) he he2 ?_
  refine zT.step ct_X2_endPart_ok ?_
  refine And.intro (fun z => ?_) (fun _ => ?_)
  · have z : nI 3 ≤ μ.1 a 3 := z
    rw [hq] at z
    exact absurd z (nI_ge h (by decide))
  refine zT.step ct_X2_endPart_ok ?_
  refine zT.step ct_X2_endPart_ok ?_
  refine And.intro ⟨ha2, w, ha⟩ ?_
  rw [z1]
  refine zT.step ct_X2_endPart_ok ?_
  refine zT.step ct_X2_endPart_ok ?_
  refine And.intro ⟨ha2, w, ha⟩ ?_
  refine zT.step ct_X2_endPart_ok ?_
  refine zT.step ct_X2_endPart_ok ?_
  refine And.intro ⟨ha2, w, ha⟩ ?_
  refine zT.step ct_X2_endPart_ok ?_
  refine Exists.intro q (And.intro ⟨hq, he2, 3, he, h, by decide⟩ ?_)
  refine zT.step ct_X2_endPart_ok ?_
  refine zT.step ct_X2_endPart_ok ?_
  refine zT.step ct_X2_endPart_ok ?_
  refine And.intro ⟨ha2, w, ha⟩ ?_
  refine zT.step ct_X2_endPart_ok ?_
  refine zT.step ct_X2_endPart_ok ?_
  refine zT.step ct_X2_endPart_ok ?_
  refine And.intro ⟨ha2, w, ha⟩ ?_
  refine zT.step ct_X2_endPart_ok ?_
  refine And.intro rfl (And.intro rfl ?_)
  show z_sI (z_sI μ e q (μ.1 a 2)) a 3 (z_up μ.1 e q (μ.1 a 2) a 3 + 1) = _
  rw [zu_n _ _ _ _ _ hae, hq, hn, nI_1]
  rfl
def uFirst (μ : zMem) (a s e : Nat) : zMem := uEnd (uAdd (uEnd (uAdd (uEnd (uAdd (z_sI (z_sI μ a 2 0) a 3 0) a s 0 4) a e 0 1) a s 1 2) a e 1 2) a s 2 0) a e 2 3
theorem s_beFirst {X : zXs} {d a s e w : Nat} {L : List zSh} {μ : zMem} (hd : 1 ≤ d) (ha : L[a]? = some (2, w)) (hs : L[s]? = some (10, 160)) (he : L[e]? = some (10, 3)) (hr : μ.2.2 a 0 = some s) (hr1 : μ.2.2 a 1 = some e) (ha2 : a < 1000000) (hs2 : s < 1000000) (he2 : e < 1000000) (has : a ≠ s) (hae : a ≠ e) (hse : s ≠ e) : zF X d m_X2_beFirst [.ref a] L μ none (uFirst μ a s e) := by
  have n1 : ∀ (ν : zMem) n v, (uAdd ν a s n v).1 a 2 = nI (n + 1) := fun ν n v => z_up_s _ _ _ _
  have n2 : ∀ (ν : zMem) n v, (uAdd ν a s n v).1 a 3 = ν.1 a 3 := fun ν n v => by show z_up (z_up ν.1 s n v) a 2 _ a 3 = _; rw [zu_k _ _ _ _ _ (by decide), zu_n _ _ _ _ _ has]
  have n3 : ∀ (ν : zMem) q n, (uEnd ν a e q n).1 a 3 = nI (q + 1) := fun ν q n => z_up_s _ _ _ _
  have n4 : ∀ (ν : zMem) q n, (uEnd ν a e q n).1 a 2 = ν.1 a 2 := fun ν q n => by show z_up (z_up ν.1 e q _) a 3 _ a 2 = _; rw [zu_k _ _ _ _ _ (by decide), zu_n _ _ _ _ _ hae]
  unfold uFirst
  have h0 : (z_sI (z_sI μ a 2 0) a 3 0).1 a 2 = nI 0 := by show z_up (z_up μ.1 a 2 0) a 3 0 a 2 = _; rw [zu_k _ _ _ _ _ (by decide), z_up_s]; rfl
  have h0' : (z_sI (z_sI μ a 2 0) a 3 0).1 a 3 = nI 0 := by show z_up (z_up μ.1 a 2 0) a 3 0 a 3 = _; rw [z_up_s]; rfl
  have r0 : (z_sI (z_sI μ a 2 0) a 3 0).2.2 = μ.2.2 := rfl
  have fe := s_emptyG (X := X) (d := d - 1) (μ := μ) ha ha2
  generalize z_sI (z_sI μ a 2 0) a 3 0 = μ0 at h0 h0' r0 fe ⊢
  have f1 := s_addG (X := X) (d := d - 1) (μ := μ0) (v := 4) (n := 0) ha hs (by rw [r0]; exact hr) ha2 hs2 has h0 (by decide)
  have f2 := s_endPartG (X := X) (d := d - 1) (μ := uAdd μ0 a s 0 4) (q := 0) (n := 1) ha he (by show μ0.2.2 a 1 = _; rw [r0]; exact hr1) ha2 he2 hae (by rw [n2]; exact h0') (n1 _ _ _) (by decide)
  have f3 := s_addG (X := X) (d := d - 1) (μ := uEnd (uAdd μ0 a s 0 4) a e 0 1) (v := 2) (n := 1) ha hs (by show μ0.2.2 a 0 = _; rw [r0]; exact hr) ha2 hs2 has (by rw [n4, n1]) (by decide)
  have f4 := s_endPartG (X := X) (d := d - 1) (μ := uAdd (uEnd (uAdd μ0 a s 0 4) a e 0 1) a s 1 2) (q := 1) (n := 2) ha he (by show μ0.2.2 a 1 = _; rw [r0]; exact hr1) ha2 he2 hae (by rw [n2, n3]) (n1 _ _ _) (by decide)
  have f5 := s_addG (X := X) (d := d - 1) (μ := uEnd (uAdd (uEnd (uAdd μ0 a s 0 4) a e 0 1) a s 1 2) a e 1 2) (v := 0) (n := 2) ha hs (by show μ0.2.2 a 0 = _; rw [r0]; exact hr) ha2 hs2 has (by rw [n4, n1]) (by decide)
  have f6 := s_endPartG (X := X) (d := d - 1) (μ := uAdd (uEnd (uAdd (uEnd (uAdd μ0 a s 0 4) a e 0 1) a s 1 2) a e 1 2) a s 2 0) (q := 2) (n := 3) ha he (by show μ0.2.2 a 1 = _; rw [r0]; exact hr1) ha2 he2 hae (by rw [n2, n3]) (n1 _ _ _) (by decide)
  refine zF.of mk_X2_beFirst rfl ?_
  refine zT.step ct_X2_beFirst_ok ?_
  refine zT.step ct_X2_beFirst_ok ?_
  refine And.intro ⟨hd, ha2, w, ha⟩ (zF.use fe ?_)
  refine zT.step ct_X2_beFirst_ok ?_
  refine zT.step ct_X2_beFirst_ok ?_
  refine zT.step ct_X2_beFirst_ok ?_
  refine And.intro ⟨hd, ha2, w, ha⟩ (zF.use f1 ?_)
  refine zT.step ct_X2_beFirst_ok ?_
  refine zT.step ct_X2_beFirst_ok ?_
  refine And.intro ⟨hd, ha2, w, ha⟩ (zF.use f2 ?_)
  refine zT.step ct_X2_beFirst_ok ?_
  refine zT.step ct_X2_beFirst_ok ?_
  refine zT.step ct_X2_beFirst_ok ?_
  refine And.intro ⟨hd, ha2, w, ha⟩ (zF.use f3 ?_)
  refine zT.step ct_X2_beFirst_ok ?_
  refine zT.step ct_X2_beFirst_ok ?_
  refine And.intro ⟨hd, ha2, w, ha⟩ (zF.use f4 ?_)
  refine zT.step ct_X2_beFirst_ok ?_
  refine zT.step ct_X2_beFirst_ok ?_
  refine zT.step ct_X2_beFirst_ok ?_
  refine And.intro ⟨hd, ha2, w, ha⟩ (zF.use f5 ?_)
  refine zT.step ct_X2_beFirst_ok ?_
  refine zT.step ct_X2_beFirst_ok ?_
  refine And.intro ⟨hd, ha2, w, ha⟩ (zF.use f6 ?_)
  refine zT.step ct_X2_beFirst_ok ?_
  exact And.intro rfl (And.intro rfl rfl)
/-! Square -/
def lS0 : List zSh := [(6, 0), (4, 0), (25, 8), (22, 6), (10, 8), (10, 8), (10, 6), (10, 160)]
def lT : Nat → List zSh
  | 0 => lS0
  | i + 1 => lT i ++ [(5, 0)]
theorem lT_len : ∀ i, (lT i).length = 8 + i
  | 0 => rfl
  | i + 1 => by show (lT i ++ [_]).length = _; rw [app_len, lT_len i]; omega
theorem lT_get : ∀ (i j : Nat) (sh : zSh), lS0[j]? = some sh → (lT i)[j]? = some sh
  | 0, _, _, h => h
  | i + 1, j, sh, h => app_lt (lT_get i j sh h)
def lR : Nat → List zSh
  | 0 => lT 8
  | i + 1 => lR i ++ [(2, 0)] ++ [(10, 160), (10, 3)]
theorem lR_len : ∀ i, (lR i).length = 16 + 3 * i
  | 0 => rfl
  | i + 1 => by show (lR i ++ [_] ++ [_, _]).length = _; rw [List.length_append, app_len, lR_len i]; show 16 + 3 * i + 1 + 2 = _; omega
theorem lR_get : ∀ (i j : Nat) (sh : zSh), lS0[j]? = some sh → (lR i)[j]? = some sh
  | 0, j, sh, h => lT_get 8 j sh h
  | i + 1, j, sh, h => app_lt (app_lt (lR_get i j sh h))
def cS0 (μ : zMem) : zMem := mkA (mkA (z_sI (mkA (mkA (mkA (mkA μ 2 1 0) 3 1 1) 4 1 7) 5 1 8) 1 11 (-1)) 6 1 12) 7 1 13
def cT (μ : zMem) : Nat → zMem
  | 0 => μ
  | i + 1 => z_sR (z_zr (cT μ i) (8 + i)) 2 i (some (8 + i))
def cR (μ : zMem) : Nat → zMem
  | 0 => μ
  | i + 1 => z_sR (mkA (mkA (z_zr (cR μ i) (16 + 3 * i)) (17 + 3 * i) (16 + 3 * i) 0) (17 + 3 * i + 1) (16 + 3 * i) 1) 3 i (some (16 + 3 * i))
theorem z_zr_o (μ : zMem) (n b k : Nat) (h : b ≠ n) : (z_zr μ n).2.2 b k = μ.2.2 b k := if_neg h
theorem sR_o (μ : zMem) (a k b j : Nat) (v : Option Nat) (h : b ≠ a) : (z_sR μ a k v).2.2 b j = μ.2.2 b j := by show z_up μ.2.2 a k v b j = _; rw [z_up_o _ _ _ _ _ h]
theorem cT_1 (μ : zMem) : ∀ i k, (cT μ i).2.2 1 k = μ.2.2 1 k
  | 0, _ => rfl
  | i + 1, k => by
    show (z_sR (z_zr (cT μ i) (8 + i)) 2 i (some (8 + i))).2.2 1 k = _
    rw [sR_o _ _ _ _ _ _ (by decide), z_zr_o _ _ _ _ (by omega), cT_1 μ i]
theorem cR_1 (μ : zMem) : ∀ i k, (cR μ i).2.2 1 k = μ.2.2 1 k
  | 0, _ => rfl
  | i + 1, k => by
    show (z_sR (mkA (mkA (z_zr (cR μ i) (16 + 3 * i)) (17 + 3 * i) (16 + 3 * i) 0) (17 + 3 * i + 1) (16 + 3 * i) 1) 3 i (some (16 + 3 * i))).2.2 1 k = _
    unfold mkA
    rw [sR_o _ _ _ _ _ _ (by decide), sR_o _ _ _ _ _ _ (by omega), z_zr_o _ _ _ _ (by omega), sR_o _ _ _ _ _ _ (by omega), z_zr_o _ _ _ _ (by omega), z_zr_o _ _ _ _ (by omega), cR_1 μ i]
def cSq (μ : zMem) : zMem := z_sI (uFirst (cR (cT (cS0 μ) 8) 6) 16 17 18) 1 3 1
theorem s_iSquare {X : zXs} {d : Nat} {μ : zMem} (hd : 3 ≤ d) : zC X d 32 1300 m_X4_init [.ref 1] [(6, 0), (4, 0)] μ (fun v L2 μ2 => v = none ∧ L2 = lR 6 ∧ μ2 = cSq μ) := by
  have hR : ∀ (m i : Nat) (k n : Nat) (ν : zMem), i + m = 6 → ν.2.2 1 1 = some 3 → 3 * m ≤ k → 167 * m ≤ n → (zT X d m_X4_init (fun v L2 μ2 => v = none ∧ L2 = lR 6 ∧ μ2 = cSq μ) (k - 3 * m) (n - 167 * m) 120 [some (.ref 1), none] [] (lR 6) (cR ν 6)) → zT X d m_X4_init (fun v L2 μ2 => v = none ∧ L2 = lR 6 ∧ μ2 = cSq μ) k n 92 [some (.ref 1), some (.int (nI i))] [] (lR i) (cR ν i) := by
    intro m
    induction m with
    | zero =>
      intro i k n ν hi h11 hk hn K
      have hi : i = 6 := by omega
      subst hi
      have z1 : z_fv (cR ν 6) 1 4 1 = .ref 3 := by show z_rv ((cR ν 6).2.2 1 1) = _; rw [cR_1, h11]; rfl
      refine zT.step ct_X4_init_ok ?_
      refine zT.step ct_X4_init_ok ?_
      refine zT.step ct_X4_init_ok ?_
      refine And.intro ⟨by decide, 0, lR_get _ _ _ rfl⟩ ?_
      rw [z1]
      refine zT.step ct_X4_init_ok ?_
      refine z_alen (X := X) (d := d) (Q := fun _ _ _ => True) (lR_get 6 3 (22, 6) rfl) (by decide) ?_
      refine zT.step ct_X4_init_ok ?_
      refine And.intro (fun _ => ?_) (fun h => absurd (by decide) h)
      exact zT.drop 1 K
    | succ m ih =>
      intro i k n ν hi h11 hk hn K
      have z1 : z_fv (cR ν i) 1 4 1 = .ref 3 := by show z_rv ((cR ν i).2.2 1 1) = _; rw [cR_1, h11]; rfl
      have hlen := lR_len i
      have h16 : 16 + 3 * i < 1000000 := by omega
      refine zT.step ct_X4_init_ok ?_
      refine zT.step ct_X4_init_ok ?_
      refine zT.step ct_X4_init_ok ?_
      refine And.intro ⟨by decide, 0, lR_get _ _ _ rfl⟩ ?_
      rw [z1]
      refine zT.step ct_X4_init_ok ?_
      refine z_alen (X := X) (d := d) (Q := fun _ _ _ => True) (lR_get i 3 (22, 6) rfl) (by decide) ?_
      refine zT.step ct_X4_init_ok ?_
      refine And.intro (fun h => absurd h (nI_ge (show i < 6 by omega) (by decide))) (fun _ => ?_)
      refine zT.step ct_X4_init_ok ?_
      refine zT.step ct_X4_init_ok ?_
      refine And.intro ⟨by decide, 0, lR_get _ _ _ rfl⟩ ?_
      rw [z1]
      refine zT.step ct_X4_init_ok ?_
      refine zT.step ct_X4_init_ok ?_
      refine And.intro ⟨by omega, by omega, by show 4 ≤ n; omega⟩ ?_
      rw [hlen]
      refine zT.step ct_X4_init_ok ?_
      refine zT.step ct_X4_init_ok ?_
      refine And.intro ⟨by omega, h16⟩ (Exists.intro 2 (Exists.intro 163 (Exists.intro _ (And.intro ⟨by omega, by show 163 ≤ n - 4; omega⟩ (And.intro (s_iRule (w := 0) (N := 17 + 3 * i) (by omega) (by rw [List.getElem?_append_right (by omega), hlen, Nat.sub_self]; rfl) (by rw [app_len, hlen]; omega) (by omega)) (fun w L2 μ2 hw => ?_))))))
      obtain ⟨rfl, rfl, rfl⟩ := hw
      refine zT.step ct_X4_init_ok ?_
      refine Exists.intro i (And.intro ⟨⟨rfl, by decide, 6, app_lt (app_lt (lR_get i 3 (22, 6) rfl)), by omega, by decide⟩, h16, 0, app_lt (by rw [List.getElem?_append_right (by omega), hlen, Nat.sub_self]; rfl)⟩ ?_)
      refine zT.step ct_X4_init_ok ?_
      refine zT.step ct_X4_init_ok ?_
      show zT X d m_X4_init _ (k - 1 - 2) (n - 4 - 163) 92 [some (.ref 1), some (.int (nI i + 1))] [] (lR (i + 1)) (cR ν (i + 1))
      rw [nI_1]
      refine ih (i + 1) _ _ ν (by omega) h11 (by omega) (by omega) ?_
      rw [show k - 1 - 2 - 3 * m = k - 3 * (m + 1) by omega, show n - 4 - 163 - 167 * m = n - 167 * (m + 1) by omega]
      exact K
  have hT : ∀ (m i : Nat) (k n : Nat) (ν : zMem), i + m = 8 → ν.2.2 1 0 = some 2 → m ≤ k → 4 * m ≤ n → (zT X d m_X4_init (fun v L2 μ2 => v = none ∧ L2 = lR 6 ∧ μ2 = cSq μ) (k - m) (n - 4 * m) 90 [some (.ref 1), none] [] (lT 8) (cT ν 8)) → zT X d m_X4_init (fun v L2 μ2 => v = none ∧ L2 = lR 6 ∧ μ2 = cSq μ) k n 62 [some (.ref 1), some (.int (nI i))] [] (lT i) (cT ν i) := by
    intro m
    induction m with
    | zero =>
      intro i k n ν hi h11 hk hn K
      have hi : i = 8 := by omega
      subst hi
      have z1 : z_fv (cT ν 8) 1 4 0 = .ref 2 := by show z_rv ((cT ν 8).2.2 1 0) = _; rw [cT_1, h11]; rfl
      refine zT.step ct_X4_init_ok ?_
      refine zT.step ct_X4_init_ok ?_
      refine zT.step ct_X4_init_ok ?_
      refine And.intro ⟨by decide, 0, lT_get _ _ _ rfl⟩ ?_
      rw [z1]
      refine zT.step ct_X4_init_ok ?_
      refine z_alen (X := X) (d := d) (Q := fun _ _ _ => True) (lT_get 8 2 (25, 8) rfl) (by decide) ?_
      refine zT.step ct_X4_init_ok ?_
      refine And.intro (fun _ => ?_) (fun h => absurd (by decide) h)
      exact zT.drop 1 K
    | succ m ih =>
      intro i k n ν hi h11 hk hn K
      have z1 : z_fv (cT ν i) 1 4 0 = .ref 2 := by show z_rv ((cT ν i).2.2 1 0) = _; rw [cT_1, h11]; rfl
      have hlen := lT_len i
      have h16 : 8 + i < 1000000 := by omega
      refine zT.step ct_X4_init_ok ?_
      refine zT.step ct_X4_init_ok ?_
      refine zT.step ct_X4_init_ok ?_
      refine And.intro ⟨by decide, 0, lT_get _ _ _ rfl⟩ ?_
      rw [z1]
      refine zT.step ct_X4_init_ok ?_
      refine z_alen (X := X) (d := d) (Q := fun _ _ _ => True) (lT_get i 2 (25, 8) rfl) (by decide) ?_
      refine zT.step ct_X4_init_ok ?_
      refine And.intro (fun h => absurd h (nI_ge (show i < 8 by omega) (by decide))) (fun _ => ?_)
      refine zT.step ct_X4_init_ok ?_
      refine zT.step ct_X4_init_ok ?_
      refine And.intro ⟨by decide, 0, lT_get _ _ _ rfl⟩ ?_
      rw [z1]
      refine zT.step ct_X4_init_ok ?_
      refine zT.step ct_X4_init_ok ?_
      refine And.intro ⟨by omega, by omega, by show 4 ≤ n; omega⟩ ?_
      rw [hlen]
      refine zT.step ct_X4_init_ok ?_
      refine zT.step ct_X4_init_ok ?_
      refine And.intro ⟨by omega, h16⟩ (Exists.intro 0 (Exists.intro 0 (Exists.intro _ (And.intro ⟨by omega, by omega⟩ (And.intro (s_iThing (by omega) h16) (fun w L2 μ2 hw => ?_))))))
      obtain ⟨rfl, rfl, rfl⟩ := hw
      refine zT.step ct_X4_init_ok ?_
      refine Exists.intro i (And.intro ⟨⟨rfl, by decide, 8, app_lt (lT_get i 2 (25, 8) rfl), by omega, by decide⟩, h16, 0, by rw [List.getElem?_append_right (by omega), hlen, Nat.sub_self]; rfl⟩ ?_)
      refine zT.step ct_X4_init_ok ?_
      refine zT.step ct_X4_init_ok ?_
      show zT X d m_X4_init _ (k - 1 - 0) (n - 4 - 0) 62 [some (.ref 1), some (.int (nI i + 1))] [] (lT (i + 1)) (cT ν (i + 1))
      rw [nI_1]
      refine ih (i + 1) _ _ ν (by omega) h11 (by omega) (by omega) ?_
      rw [show k - 1 - 0 - m = k - (m + 1) by omega, show n - 4 - 0 - 4 * m = n - 4 * (m + 1) by omega]
      exact K
  refine zC.of mk_X4_init rfl ?_
  refine zT.step ct_X4_init_ok ?_
  refine zT.step ct_X4_init_ok ?_
  refine And.intro (by omega) ?_
  refine zT.step ct_X4_init_ok ?_
  refine zT.step ct_X4_init_ok ?_
  refine zT.step ct_X4_init_ok ?_
  refine And.intro ⟨by decide, by decide, by decide, by decide, by decide⟩ ?_
  refine zT.step ct_X4_init_ok ?_
  refine And.intro ⟨by decide, 0, rfl⟩ ?_
  refine zT.step ct_X4_init_ok ?_
  refine zT.step ct_X4_init_ok ?_
  refine zT.step ct_X4_init_ok ?_
  refine And.intro ⟨by decide, by decide, by decide, by decide, by decide⟩ ?_
  refine zT.step ct_X4_init_ok ?_
  refine And.intro ⟨by decide, 0, rfl⟩ ?_
  refine zT.step ct_X4_init_ok ?_
  refine zT.step ct_X4_init_ok ?_
  refine zT.step ct_X4_init_ok ?_
  refine And.intro ⟨by decide, by decide, by decide, by decide, by decide⟩ ?_
  refine zT.step ct_X4_init_ok ?_
  refine And.intro ⟨by decide, 0, rfl⟩ ?_
  refine zT.step ct_X4_init_ok ?_
  refine zT.step ct_X4_init_ok ?_
  refine zT.step ct_X4_init_ok ?_
  refine And.intro ⟨by decide, by decide, by decide, by decide, by decide⟩ ?_
  refine zT.step ct_X4_init_ok ?_
  refine And.intro ⟨by decide, 0, rfl⟩ ?_
  refine zT.step ct_X4_init_ok ?_
  refine zT.step ct_X4_init_ok ?_
  refine zT.step ct_X4_init_ok ?_
  refine And.intro ⟨by decide, 0, rfl⟩ ?_
  refine zT.step ct_X4_init_ok ?_
  refine zT.step ct_X4_init_ok ?_
  refine zT.step ct_X4_init_ok ?_
  refine And.intro ⟨by decide, by decide, by decide, by decide, by decide⟩ ?_
  refine zT.step ct_X4_init_ok ?_
  refine And.intro ⟨by decide, 0, rfl⟩ ?_
  refine zT.step ct_X4_init_ok ?_
  refine zT.step ct_X4_init_ok ?_
  refine zT.step ct_X4_init_ok ?_
  refine And.intro ⟨by decide, by decide, by decide, by decide, by decide⟩ ?_
  refine zT.step ct_X4_init_ok ?_
  refine And.intro ⟨by decide, 0, rfl⟩ ?_
  refine zT.step ct_X4_init_ok ?_
  refine zT.step ct_X4_init_ok ?_
  show zT X d m_X4_init _ 26 1104 62 [some (.ref 1), some (.int (nI 0))] [] (lT 0) (cT (cS0 μ) 0)
  refine hT 8 0 26 1104 (cS0 μ) rfl rfl (by decide) (by decide) ?_
  refine zT.step ct_X4_init_ok ?_
  refine zT.step ct_X4_init_ok ?_
  show zT X d m_X4_init _ 18 1072 92 [some (.ref 1), some (.int (nI 0))] [] (lR 0) (cR (cT (cS0 μ) 8) 0)
  refine hR 6 0 18 1072 (cT (cS0 μ) 8) rfl (by rw [cT_1]; rfl) (by decide) (by decide) ?_
  have z1 : z_fv (cR (cT (cS0 μ) 8) 6) 1 4 1 = .ref 3 := by show z_rv ((cR (cT (cS0 μ) 8) 6).2.2 1 1) = _; rw [cR_1, cT_1]; rfl
  refine zT.step ct_X4_init_ok ?_
  refine zT.step ct_X4_init_ok ?_
  refine And.intro ⟨by decide, 0, rfl⟩ ?_
  rw [z1]
  refine zT.step ct_X4_init_ok ?_
  refine zT.step ct_X4_init_ok ?_
  refine Exists.intro 0 (And.intro ⟨rfl, by decide, 6, rfl, by decide, by decide⟩ ?_)
  show zT X d m_X4_init _ _ _ 126 _ [.ref 16] _ _
  refine zT.step ct_X4_init_ok ?_
  refine And.intro ⟨by omega, by decide, 0, rfl⟩ (zF.use (s_beFirst (s := 17) (e := 18) (w := 0) (by omega) rfl rfl rfl rfl rfl (by decide) (by decide) (by decide) (by decide) (by decide) (by decide)) ?_)
  refine zT.step ct_X4_init_ok ?_
  refine zT.step ct_X4_init_ok ?_
  refine zT.step ct_X4_init_ok ?_
  refine And.intro ⟨by decide, 0, rfl⟩ ?_
  refine zT.step ct_X4_init_ok ?_
  exact And.intro rfl (And.intro rfl rfl)
