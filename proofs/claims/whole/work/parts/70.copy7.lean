/-! the reference's copy -/
theorem sub_ltI {sz m j : Nat} (hs : sz ≤ 40) (hm : m < 2 ^ 31) (hj : j < 2 ^ 31) : nI sz - nI m < nI j ↔ sz < j + m := by
  rw [Int32.lt_iff_toInt_lt, Int32.toInt_sub, nI_toInt (by omega), nI_toInt hm, nI_toInt hj]
  have : ((sz : Int) - (m : Int)).bmod (2 ^ 32) = (sz : Int) - m := Int.bmod_eq_of_le_mul_two (by omega) (by omega)
  rw [this]
  omega
theorem holdsN {sz j m : Nat} (hs : sz ≤ 40) (hm : m < 2 ^ 31) (hj : j < 2 ^ 31) : f_holds (nI sz) (nI j) (nI m) = decide (j + m ≤ sz) := by
  unfold f_holds
  rw [decide_eq_decide]
  constructor
  · rintro ⟨-, -, h3, h4⟩
    rw [nI_ltI (by omega) hj] at h3
    rw [sub_ltI hs hj hm] at h4
    omega
  · intro h
    refine ⟨nI_pos hj, nI_pos hm, ?_, ?_⟩
    · rw [nI_ltI (by omega) hj]; omega
    · rw [sub_ltI hs hj hm]; omega
theorem holds_neg1 {sz y c : Int32} (h : y < 0) : f_holds sz y c = false := decide_eq_false (fun z => z.1 h)
theorem holds_neg2 {sz y c : Int32} (h : c < 0) : f_holds sz y c = false := decide_eq_false (fun z => z.2.1 h)
theorem t_copy {X : zXs} {d : Nat} {a σ : zSg} {τ : Nat → Nat → Int64} {r : Option Nat} {x y o z c : Int32} (hd : 2 ≤ d) (hS : SH a σ) : zC X d 0 0 m_X7_copy [.ref 50, .int x, .int y, .int o, .int z, .int c] L0 (mm σ τ r) (fun w L2 μ2 => w = some (.int (k_copy a x y o z c)) ∧ L2 = L0 ∧ ∃ σ', μ2 = mm σ' τ r ∧ SH (u_copy a x y o z c) σ' ∧ SV σ σ') := by
  have bad : (rg x 4 && rg o 4) = false → zT X d m_X7_copy (fun w L2 μ2 => w = some (.int (k_copy a x y o z c)) ∧ L2 = L0 ∧ ∃ σ', μ2 = mm σ' τ r ∧ SH (u_copy a x y o z c) σ' ∧ SV σ σ') 0 0 14 [some (.ref 50), some (.int x), some (.int y), some (.int o), some (.int z), some (.int c), none, none, none] [] L0 (mm σ τ r) := by
    intro h
    have hk : k_copy a x y o z c = -2 := by unfold k_copy; rw [h]; rfl
    refine zT.step ct_X7_copy_ok ?_
    refine zT.step ct_X7_copy_ok ?_
    exact And.intro (by rw [hk]) (And.intro rfl ⟨σ, rfl, by unfold u_copy; rw [hk, if_neg (by decide)]; exact hS, SV.rf⟩)
  refine zC.of mk_X7_copy rfl ?_
  refine zT.step ct_X7_copy_ok ?_
  refine zT.step ct_X7_copy_ok ?_
  refine And.intro (by omega) (zF.use (t_isSheet (by omega)) ?_)
  refine zT.step ct_X7_copy_ok ?_
  refine And.intro (fun q => bad (by rw [fb0 q]; rfl)) (fun q => ?_)
  have hx := fb1 q
  refine zT.step ct_X7_copy_ok ?_
  refine zT.step ct_X7_copy_ok ?_
  refine And.intro (by omega) (zF.use (t_isSheet (by omega)) ?_)
  refine zT.step ct_X7_copy_ok ?_
  refine And.intro (fun q => bad (by rw [fb0 q, Bool.and_false])) (fun q => ?_)
  have ho := fb1 q
  obtain ⟨s, hs, rfl⟩ := rg_t (by omega) hx
  obtain ⟨u, hu, rfl⟩ := rg_t (by omega) ho
  have hk : k_copy a (nI s) y (nI u) z c = (if a (42 + 2 * s) 1 = -1 ∨ a (42 + 2 * u) 1 = -1 then -11 else if a (42 + 2 * s) 1 = a (42 + 2 * u) 1 then (bif f_holds (a (42 + 2 * s) 2) y c && f_holds (a (42 + 2 * u) 2) z c then c else -12) else -13) := by
    unfold k_copy
    rw [hx, ho, nI_clamp (by omega), nI_clamp (by omega)]
    rfl
  have out : ∀ v : Int32, v = -11 ∨ v = -12 ∨ v = -13 → k_copy a (nI s) y (nI u) z c = v → u_copy a (nI s) y (nI u) z c = a := by
    intro v hv h
    unfold u_copy
    rw [h, if_neg]
    rcases hv with rfl | rfl | rfl <;> decide
  have mis : (a (42 + 2 * s) 1 = -1 ∨ a (42 + 2 * u) 1 = -1) → zT X d m_X7_copy (fun w L2 μ2 => w = some (.int (k_copy a (nI s) y (nI u) z c)) ∧ L2 = L0 ∧ ∃ σ', μ2 = mm σ' τ r ∧ SH (u_copy a (nI s) y (nI u) z c) σ' ∧ SV σ σ') 0 0 35 [some (.ref 50), some (.int (nI s)), some (.int y), some (.int (nI u)), some (.int z), some (.int c), none, none, none] [] L0 (mm σ τ r) := by
    intro h
    rw [if_pos h] at hk
    refine zT.step ct_X7_copy_ok ?_
    refine zT.step ct_X7_copy_ok ?_
    exact And.intro (by rw [hk]) (And.intro rfl ⟨σ, rfl, by rw [out _ (Or.inl rfl) hk]; exact hS, SV.rf⟩)
  refine zT.step ct_X7_copy_ok ?_
  refine zT.step ct_X7_copy_ok ?_
  refine And.intro ⟨by decide, _, rfl⟩ ?_
  refine zT.step ct_X7_copy_ok ?_
  refine zT.step ct_X7_copy_ok ?_
  refine Exists.intro s (And.intro ⟨rfl, by decide, 4, rfl, hs, by decide⟩ ?_)
  show zT X d m_X7_copy _ 0 0 23 _ [.int (σ 60 s)] _ _
  rcases hS s hs with ⟨m1, g0⟩ | ⟨so, sz, hso, hsz, e1, e2, g0, g1, g2, g3⟩
  · rw [g0]
    refine zT.step ct_X7_copy_ok ?_
    exact And.intro (fun _ => mis (Or.inl m1)) (fun q => absurd rfl q)
  rw [g0]
  refine zT.step ct_X7_copy_ok ?_
  refine And.intro (fun q => absurd q (by decide)) (fun _ => ?_)
  refine zT.step ct_X7_copy_ok ?_
  refine zT.step ct_X7_copy_ok ?_
  refine And.intro ⟨by decide, _, rfl⟩ ?_
  refine zT.step ct_X7_copy_ok ?_
  refine zT.step ct_X7_copy_ok ?_
  refine Exists.intro u (And.intro ⟨rfl, by decide, 4, rfl, hu, by decide⟩ ?_)
  show zT X d m_X7_copy _ 0 0 32 _ [.int (σ 60 u)] _ _
  rcases hS u hu with ⟨m2, k0⟩ | ⟨uo, uz, huo, huz, f1, f2, k0, k1, k2, k3⟩
  · rw [k0]
    refine zT.step ct_X7_copy_ok ?_
    exact And.intro (fun _ => mis (Or.inr m2)) (fun q => absurd rfl q)
  rw [k0]
  rw [e1, e2, f1, f2, if_neg (fun z => z.elim (so_n1 hso) (so_n1 huo))] at hk
  refine zT.step ct_X7_copy_ok ?_
  refine And.intro (fun q => absurd q (by decide)) (fun _ => ?_)
  refine zT.step ct_X7_copy_ok ?_
  refine zT.step ct_X7_copy_ok ?_
  refine And.intro ⟨by decide, _, rfl⟩ ?_
  refine zT.step ct_X7_copy_ok ?_
  refine zT.step ct_X7_copy_ok ?_
  refine Exists.intro s (And.intro ⟨rfl, by decide, 4, rfl, hs, by decide⟩ ?_)
  refine zT.step ct_X7_copy_ok ?_
  refine zT.step ct_X7_copy_ok ?_
  refine And.intro ⟨by decide, _, rfl⟩ ?_
  refine zT.step ct_X7_copy_ok ?_
  refine zT.step ct_X7_copy_ok ?_
  refine Exists.intro u (And.intro ⟨rfl, by decide, 4, rfl, hu, by decide⟩ ?_)
  show zT X d m_X7_copy _ 0 0 50 _ [.int (σ 61 u), .int (σ 61 s)] _ _
  rw [g1, k1]
  refine zT.step ct_X7_copy_ok ?_
  refine And.intro (fun q => ?_) (fun q => ?_)
  rotate_left
  · have q : ¬ nI so = nI uo := q
    rw [if_neg q] at hk
    refine zT.step ct_X7_copy_ok ?_
    refine zT.step ct_X7_copy_ok ?_
    exact And.intro (by rw [hk]) (And.intro rfl ⟨σ, rfl, by rw [out _ (Or.inr (Or.inr rfl)) hk]; exact hS, SV.rf⟩)
  have q : nI so = nI uo := q
  rw [if_pos q] at hk
  have no : (f_holds (nI sz) y c && f_holds (nI uz) z c) = false → zT X d m_X7_copy (fun w L2 μ2 => w = some (.int (k_copy a (nI s) y (nI u) z c)) ∧ L2 = L0 ∧ ∃ σ', μ2 = mm σ' τ r ∧ SH (u_copy a (nI s) y (nI u) z c) σ' ∧ SV σ σ') 0 0 97 [some (.ref 50), some (.int (nI s)), some (.int y), some (.int (nI u)), some (.int z), some (.int c), none, none, none] [] L0 (mm σ τ r) := by
    intro h
    rw [h] at hk
    have hk : k_copy a (nI s) y (nI u) z c = -12 := hk
    refine zT.step ct_X7_copy_ok ?_
    refine zT.step ct_X7_copy_ok ?_
    exact And.intro (by rw [hk]) (And.intro rfl ⟨σ, rfl, by rw [out _ (Or.inr (Or.inl rfl)) hk]; exact hS, SV.rf⟩)
  refine zT.step ct_X7_copy_ok ?_
  refine zT.step ct_X7_copy_ok ?_
  refine And.intro (fun q => no (by rw [holds_neg2 q]; rfl)) (fun q => ?_)
  obtain ⟨m, hm, rfl⟩ := nI_of (x := c) q
  refine zT.step ct_X7_copy_ok ?_
  refine zT.step ct_X7_copy_ok ?_
  refine And.intro (fun q => no (by rw [holds_neg1 q]; rfl)) (fun q => ?_)
  obtain ⟨j, hj, rfl⟩ := nI_of (x := y) q
  refine zT.step ct_X7_copy_ok ?_
  refine zT.step ct_X7_copy_ok ?_
  refine And.intro (fun q => no (by rw [holds_neg1 (y := z) q, Bool.and_false])) (fun q => ?_)
  obtain ⟨p, hp, rfl⟩ := nI_of (x := z) q
  rw [holdsN hsz hm hj, holdsN huz hm hp] at hk
  rw [holdsN hsz hm hj, holdsN huz hm hp] at no
  refine zT.step ct_X7_copy_ok ?_
  refine zT.step ct_X7_copy_ok ?_
  refine zT.step ct_X7_copy_ok ?_
  refine And.intro ⟨by decide, _, rfl⟩ ?_
  refine zT.step ct_X7_copy_ok ?_
  refine zT.step ct_X7_copy_ok ?_
  refine Exists.intro s (And.intro ⟨rfl, by decide, 4, rfl, hs, by decide⟩ ?_)
  show zT X d m_X7_copy _ 0 0 77 _ [.int (σ 62 s), .int (nI j)] _ _
  rw [g2]
  refine zT.step ct_X7_copy_ok ?_
  refine zT.step ct_X7_copy_ok ?_
  refine zT.step ct_X7_copy_ok ?_
  refine And.intro (fun q => ?_) (fun q => ?_)
  · have q : nI sz - nI m < nI j := q
    rw [sub_ltI hsz hm hj] at q
    exact no (by rw [decide_eq_false (show ¬ j + m ≤ sz by omega)]; rfl)
  have q : ¬ nI sz - nI m < nI j := q
  rw [sub_ltI hsz hm hj] at q
  have hjm : j + m ≤ sz := by omega
  refine zT.step ct_X7_copy_ok ?_
  refine zT.step ct_X7_copy_ok ?_
  refine zT.step ct_X7_copy_ok ?_
  refine And.intro ⟨by decide, _, rfl⟩ ?_
  refine zT.step ct_X7_copy_ok ?_
  refine zT.step ct_X7_copy_ok ?_
  refine Exists.intro u (And.intro ⟨rfl, by decide, 4, rfl, hu, by decide⟩ ?_)
  show zT X d m_X7_copy _ 0 0 91 _ [.int (σ 62 u), .int (nI p)] _ _
  rw [k2]
  refine zT.step ct_X7_copy_ok ?_
  refine zT.step ct_X7_copy_ok ?_
  refine zT.step ct_X7_copy_ok ?_
  refine And.intro (fun q2 => ?_) (fun q2 => ?_)
  rotate_left
  · have q2 : ¬ nI p ≤ nI uz - nI m := q2
    have q2 := Int32.not_le.mp q2
    rw [sub_ltI huz hm hp] at q2
    exact no (by rw [decide_eq_false (show ¬ p + m ≤ uz by omega), Bool.and_false])
  have q2 : nI p ≤ nI uz - nI m := q2
  have q2 := Int32.not_lt.mpr q2
  rw [sub_ltI huz hm hp] at q2
  have hpm : p + m ≤ uz := by omega
  have hk : k_copy a (nI s) (nI j) (nI u) (nI p) (nI m) = nI m := by rw [hk, decide_eq_true hjm, decide_eq_true hpm]; rfl
  have hu2 : u_copy a (nI s) (nI j) (nI u) (nI p) (nI m) = z_row a (43 + 2 * u) (va_cpy (a (43 + 2 * s)) (a (43 + 2 * u)) j p m) := by
    unfold u_copy
    rw [hk, if_pos (nI_pos' (by omega)), nI_clamp (by omega), nI_clamp (by omega), nI_clamp (by omega), nI_clamp (by omega), nI_clamp (by omega)]
  rw [hu2, hk]
  obtain ⟨Q, hQ⟩ : ∃ Q : zRQ, Q = (fun w L2 μ2 => w = some (.int (nI m)) ∧ L2 = L0 ∧ ∃ σ', μ2 = mm σ' τ r ∧ SH (z_row a (43 + 2 * u) (va_cpy (a (43 + 2 * s)) (a (43 + 2 * u)) j p m)) σ' ∧ SV σ σ') := ⟨_, rfl⟩
  rw [← hQ]
  have lp : ∀ (b : Bool), (b = true → s = u ∧ j < p) → (b = false → s = u → p ≤ j) → ∀ (m' k A B : Nat) (σ1 : zSg), k + m' = m → (b = true → A = m - k ∧ B = m) → (b = false → A = 0 ∧ B = k) → SO u σ σ1 → σ1 60 = σ 60 → σ1 61 = σ 61 → σ1 62 = σ 62 → (∀ e, (e < 40 * u + p + A ∨ 40 * u + p + B ≤ e) → σ1 63 e = σ 63 e) → (∀ i, A ≤ i → i < B → σ1 63 (40 * u + p + i) = σ 63 (40 * s + j + i)) → zT X d m_X7_copy Q 0 0 121 [some (.ref 50), some (.int (nI s)), some (.int (nI j)), some (.int (nI u)), some (.int (nI p)), some (.int (nI m)), some (.int (f_b b)), some (.int (nI k)), none] [] L0 (mm σ1 τ r) := by
    intro b hb1 hb0 m'
    induction m' with
    | zero =>
      intro k A B σ1 hk1 hA hB S c0 c1 c2 out1 in1
      have hk1 : k = m := by omega
      subst hk1
      have hAB : A = 0 ∧ B = k := by
        cases b with
        | true => have := hA rfl; omega
        | false => exact hB rfl
      obtain ⟨rfl, rfl⟩ := hAB
      refine zT.step ct_X7_copy_ok ?_
      refine zT.step ct_X7_copy_ok ?_
      refine zT.step ct_X7_copy_ok ?_
      refine And.intro (fun _ => ?_) (fun q => absurd (Int32.le_refl (nI B)) q)
      refine zT.step ct_X7_copy_ok ?_
      refine zT.step ct_X7_copy_ok ?_
      rw [hQ]
      refine And.intro rfl (And.intro rfl ⟨σ1, rfl, ?_, S.1⟩)
      refine hS.chg S (fun v hv hvu => ⟨z_row_n _ _ _ _ (by omega), z_row_n _ _ _ _ (by omega)⟩) (Or.inr ⟨uo, uz, huo, huz, ?_, ?_, ?_, ?_, ?_, fun i hi => ?_⟩)
      · rw [z_row_n _ _ _ _ (by omega)]; exact f1
      · rw [z_row_n _ _ _ _ (by omega)]; exact f2
      · rw [c0]; exact k0
      · rw [c1]; exact k1
      · rw [c2]; exact k2
      · rw [z_row_s]
        unfold va_cpy
        by_cases w : p ≤ i ∧ i < p + B
        · rw [if_pos w]
          have := in1 (i - p) (Nat.zero_le _) (by omega)
          rw [show 40 * u + p + (i - p) = 40 * u + i by omega, show 40 * s + j + (i - p) = 40 * s + (j + (i - p)) by omega, g3 _ (by omega)] at this
          exact this
        · rw [if_neg w, out1 _ (by omega)]
          exact k3 i hi
    | succ m' ih =>
      intro k A B σ1 hk1 hA hB S c0 c1 c2 out1 in1
      have step : ∀ e, e < m → (b = true → e = m - 1 - k) → (b = false → e = k) → zT X d m_X7_copy Q 0 0 145 [some (.ref 50), some (.int (nI s)), some (.int (nI j)), some (.int (nI u)), some (.int (nI p)), some (.int (nI m)), some (.int (f_b b)), some (.int (nI k)), none] [.int (nI e)] L0 (mm σ1 τ r) := by
        intro e he e1 e0
        have rd : σ1 63 (40 * s + j + e) = σ 63 (40 * s + j + e) := by
          refine out1 _ ?_
          cases b with
          | true => have := hA rfl; have := hb1 rfl; have := e1 rfl; omega
          | false =>
            have := hB rfl; have := e0 rfl
            by_cases q : s = u
            · have := hb0 rfl q; omega
            · omega
        refine zT.step ct_X7_copy_ok ?_
        refine zT.step ct_X7_copy_ok ?_
        refine zT.step ct_X7_copy_ok ?_
        refine And.intro ⟨by decide, _, rfl⟩ ?_
        refine zT.step ct_X7_copy_ok ?_
        refine zT.step ct_X7_copy_ok ?_
        refine zT.step ct_X7_copy_ok ?_
        refine zT.step ct_X7_copy_ok ?_
        refine zT.step ct_X7_copy_ok ?_
        refine zT.step ct_X7_copy_ok ?_
        refine zT.step ct_X7_copy_ok ?_
        refine zT.step ct_X7_copy_ok ?_
        refine zT.step ct_X7_copy_ok ?_
        refine And.intro ⟨by decide, _, rfl⟩ ?_
        refine zT.step ct_X7_copy_ok ?_
        refine zT.step ct_X7_copy_ok ?_
        refine zT.step ct_X7_copy_ok ?_
        refine zT.step ct_X7_copy_ok ?_
        refine zT.step ct_X7_copy_ok ?_
        refine zT.step ct_X7_copy_ok ?_
        refine zT.step ct_X7_copy_ok ?_
        refine zT.step ct_X7_copy_ok ?_
        refine Exists.intro (40 * s + j + e) (And.intro ⟨?_, by decide, 160, rfl, by omega, by decide⟩ ?_)
        · show nI 40 * nI s + nI j + nI e = _
          rw [nI_mulN, nI_add, nI_add]
        show zT X d m_X7_copy _ 0 0 175 _ [.int (σ1 63 (40 * s + j + e)), .int (nI 40 * nI u + nI p + nI e), .ref 63] _ _
        rw [rd]
        refine zT.step ct_X7_copy_ok ?_
        refine Exists.intro (40 * u + p + e) (And.intro ⟨?_, by decide, 160, rfl, by omega, by decide⟩ ?_)
        · rw [nI_mulN, nI_add, nI_add]
        refine zT.step ct_X7_copy_ok ?_
        refine zT.step ct_X7_copy_ok ?_
        rw [nI_1]
        refine zT.drop 8 ?_
        have eo : 40 * u + p + e = 40 * u + (p + e) := by omega
        refine ih (k + 1) (if b = true then m - (k + 1) else 0) (if b = true then m else k + 1) (z_up σ1 63 (40 * u + p + e) (σ 63 (40 * s + j + e))) (by omega) (fun w => ⟨if_pos w, if_pos w⟩) (fun w => by rw [w]; exact ⟨rfl, rfl⟩) (S.trans (by rw [eo]; exact SO.u63 (by omega))) (by rw [zu_n _ _ _ _ _ (by decide)]; exact c0) (by rw [zu_n _ _ _ _ _ (by decide)]; exact c1) (by rw [zu_n _ _ _ _ _ (by decide)]; exact c2) (fun f hf => ?_) (fun i hi1 hi2 => ?_)
        · cases b with
          | true =>
            have := hA rfl; have := e1 rfl
            have hf : f < 40 * u + p + (m - (k + 1)) ∨ 40 * u + p + m ≤ f := hf
            rw [zu_k _ _ _ _ _ (by omega)]
            exact out1 f (by omega)
          | false =>
            have := hB rfl; have := e0 rfl
            have hf : f < 40 * u + p + 0 ∨ 40 * u + p + (k + 1) ≤ f := hf
            rw [zu_k _ _ _ _ _ (by omega)]
            exact out1 f (by omega)
        · by_cases w : i = e
          · rw [w, z_up_s]
          · rw [zu_k _ _ _ _ _ (by omega)]
            cases b with
            | true =>
              have := hA rfl; have := e1 rfl
              have hi1 : m - (k + 1) ≤ i := hi1
              have hi2 : i < m := hi2
              exact in1 i (by omega) (by omega)
            | false =>
              have := hB rfl; have := e0 rfl
              have hi2 : i < k + 1 := hi2
              exact in1 i (by omega) (by omega)
      refine zT.step ct_X7_copy_ok ?_
      refine zT.step ct_X7_copy_ok ?_
      refine zT.step ct_X7_copy_ok ?_
      refine And.intro (fun q => absurd q (nI_ge (show k < m by omega) (by omega))) (fun _ => ?_)
      cases b with
      | true =>
        refine zT.step ct_X7_copy_ok ?_
        refine zT.step ct_X7_copy_ok ?_
        refine And.intro (fun q => absurd q (by decide)) (fun _ => ?_)
        refine zT.step ct_X7_copy_ok ?_
        refine zT.step ct_X7_copy_ok ?_
        refine zT.step ct_X7_copy_ok ?_
        refine zT.step ct_X7_copy_ok ?_
        refine zT.step ct_X7_copy_ok ?_
        refine zT.step ct_X7_copy_ok ?_
        show zT X d m_X7_copy Q 0 0 145 _ [.int (nI m - nI 1 - nI k)] _ _
        rw [nI_sub (by omega), nI_sub (by omega)]
        exact step (m - 1 - k) (by omega) (fun _ => rfl) (fun w => by cases w)
      | false =>
        refine zT.step ct_X7_copy_ok ?_
        refine zT.step ct_X7_copy_ok ?_
        refine And.intro (fun _ => ?_) (fun q => absurd rfl q)
        refine zT.step ct_X7_copy_ok ?_
        exact step k (by omega) (fun w => by cases w) (fun _ => rfl)
  have st : ∀ b : Bool, (b = true → s = u ∧ j < p) → (b = false → s = u → p ≤ j) → zT X d m_X7_copy Q 0 0 116 [some (.ref 50), some (.int (nI s)), some (.int (nI j)), some (.int (nI u)), some (.int (nI p)), some (.int (nI m)), none, none, none] [.int (f_b b)] L0 (mm σ τ r) := by
    intro b hb1 hb0
    refine zT.step ct_X7_copy_ok ?_
    refine zT.step ct_X7_copy_ok ?_
    refine zT.step ct_X7_copy_ok ?_
    exact lp b hb1 hb0 m 0 (if b = true then m else 0) (if b = true then m else 0) σ (by omega) (fun w => by rw [w]; exact ⟨rfl, rfl⟩) (fun w => by rw [w]; exact ⟨rfl, rfl⟩) SO.rf rfl rfl rfl (fun _ _ => rfl) (fun i h1 h2 => by omega)
  refine zT.step ct_X7_copy_ok ?_
  refine zT.step ct_X7_copy_ok ?_
  refine zT.step ct_X7_copy_ok ?_
  refine And.intro (fun q3 => ?_) (fun q3 => ?_)
  · have q3 : nI s = nI u := q3
    have q3 := (nI_eq (by omega) (by omega)).mp q3
    refine zT.step ct_X7_copy_ok ?_
    refine zT.step ct_X7_copy_ok ?_
    refine zT.step ct_X7_copy_ok ?_
    refine And.intro (fun q4 => ?_) (fun q4 => ?_)
    · have q4 : nI p ≤ nI j := q4
      have q4 := (nI_leI hp hj).mp q4
      refine zT.step ct_X7_copy_ok ?_
      exact st false (fun w => by cases w) (fun _ _ => q4)
    · have q4 : ¬ nI p ≤ nI j := q4
      have q4 : j < p := i_ge rfl rfl hj hp q4
      refine zT.step ct_X7_copy_ok ?_
      refine zT.step ct_X7_copy_ok ?_
      exact st true (fun _ => ⟨q3, q4⟩) (fun w => by cases w)
  · have q3 : ¬ nI s = nI u := q3
    have q3 : ¬ s = u := fun z => q3 (by rw [z])
    refine zT.step ct_X7_copy_ok ?_
    exact st false (fun w => by cases w) (fun _ w => absurd w q3)
