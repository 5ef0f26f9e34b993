/-! the law's walk -/
theorem sub_ltL {sz m j : Nat} (hs : sz < 2 ^ 31) (hm : m < 2 ^ 31) (hj : j < 2 ^ 31) : nI sz - nI m < nI j ↔ sz < j + m := by
  rw [Int32.lt_iff_toInt_lt, Int32.toInt_sub, nI_toInt hs, nI_toInt hm, nI_toInt hj]
  have : ((sz : Int) - (m : Int)).bmod (2 ^ 32) = (sz : Int) - m := Int.bmod_eq_of_le_mul_two (by omega) (by omega)
  rw [this]
  omega
def QL : zRQ := fun w _ _ => w = some (.int 1)
theorem law_loop {fz fd : Int32 → Int32} (hz : z_lcg fz fd) {L d : Nat} {xs : Nat → Int32} (hd : 60 ≤ d) (hL : L ≤ 3072) : ∀ (f i : Nat), L < i + 6 * f + 6 → i ≤ L → ∀ (σ : zSg) (τ : Nat → Nat → Int64) (r : Option Nat) (n t m c : Nat), INV σ σ n t m c → zT (L, xs) d m_L_law QL 0 0 18 [some (.ref 1000003), some (.ref 0), some (.ref 50), some (.int (nI i))] [] L0 (mm σ τ r) := by
  intro f
  induction f with
  | zero =>
    intro i hf hiL σ τ r n t m c h
    refine zT.step ct_L_law_ok ?_
    refine zT.step ct_L_law_ok ?_
    refine zT.step ct_L_law_ok ?_
    refine And.intro ⟨by decide, by decide⟩ ?_
    refine zT.step ct_L_law_ok ?_
    refine zT.step ct_L_law_ok ?_
    refine zT.step ct_L_law_ok ?_
    refine And.intro (fun _ => ?_) (fun q => ?_)
    · refine zT.step ct_L_law_ok ?_
      refine zT.step ct_L_law_ok ?_
      exact And.intro rfl rfl
    · have q : ¬ nI L - nI 6 < nI i := q
      rw [sub_ltL (by omega) (by decide) (by omega)] at q
      omega
  | succ f ih =>
    intro i hf hiL σ τ r n t m c h
    refine zT.step ct_L_law_ok ?_
    refine zT.step ct_L_law_ok ?_
    refine zT.step ct_L_law_ok ?_
    refine And.intro ⟨by decide, by decide⟩ ?_
    refine zT.step ct_L_law_ok ?_
    refine zT.step ct_L_law_ok ?_
    refine zT.step ct_L_law_ok ?_
    refine And.intro (fun _ => ?_) (fun q => ?_)
    · refine zT.step ct_L_law_ok ?_
      refine zT.step ct_L_law_ok ?_
      exact And.intro rfl rfl
    have q : ¬ nI L - nI 6 < nI i := q
    rw [sub_ltL (by omega) (by decide) (by omega)] at q
    have hi : i + 6 ≤ L := by omega
    have K : LK7 L xs d i QL := by
      intro σ' τ' r' n' t' m' c' h'
      refine zT.step ct_L_law_ok ?_
      refine zT.step ct_L_law_ok ?_
      show zT (L, xs) d m_L_law QL 0 0 18 [some (.ref 1000003), some (.ref 0), some (.ref 50), some (.int (nI i + nI 6))] [] L0 (mm σ' τ' r')
      rw [nI_add]
      exact ih (i + 6) (by omega) hi σ' τ' r' n' t' m' c' h'
    have all : ∀ t ∈ [152, 195, 238, 271, 294, 307, 330, 373, 396, 419, 442, 485, 528, 571, 604, 647, 680, 703, 757, 770, 783, 806, 849, 892, 955, 1008], zT (L, xs) d m_L_law QL 0 0 t [some (.ref 1000003), some (.ref 0), some (.ref 50), some (.int (nI i))] [] L0 (mm σ τ r) := by
      exact List.forall_mem_cons.mpr ⟨law_152 hz hd hL hi h K, List.forall_mem_cons.mpr ⟨law_195 hz hd hL hi h K, List.forall_mem_cons.mpr ⟨law_238 hz hd hL hi h K, List.forall_mem_cons.mpr ⟨law_271 hz hd hL hi h K, List.forall_mem_cons.mpr ⟨law_294 hz hd hL hi h K, List.forall_mem_cons.mpr ⟨law_307 hz hd hL hi h K, List.forall_mem_cons.mpr ⟨law_330 hz hd hL hi h K, List.forall_mem_cons.mpr ⟨law_373 hz hd hL hi h K, List.forall_mem_cons.mpr ⟨law_396 hz hd hL hi h K, List.forall_mem_cons.mpr ⟨law_419 hz hd hL hi h K, List.forall_mem_cons.mpr ⟨law_442 hz hd hL hi h K, List.forall_mem_cons.mpr ⟨law_485 hz hd hL hi h K, List.forall_mem_cons.mpr ⟨law_528 hz hd hL hi h K, List.forall_mem_cons.mpr ⟨law_571 hz hd hL hi h K, List.forall_mem_cons.mpr ⟨law_604 hz hd hL hi h K, List.forall_mem_cons.mpr ⟨law_647 hz hd hL hi h K, List.forall_mem_cons.mpr ⟨law_680 hz hd hL hi h K, List.forall_mem_cons.mpr ⟨law_703 hz hd hL hi h K, List.forall_mem_cons.mpr ⟨law_757 hz hd hL hi h K, List.forall_mem_cons.mpr ⟨law_770 hz hd hL hi h K, List.forall_mem_cons.mpr ⟨law_783 hz hd hL hi h K, List.forall_mem_cons.mpr ⟨law_806 hz hd hL hi h K, List.forall_mem_cons.mpr ⟨law_849 hz hd hL hi h K, List.forall_mem_cons.mpr ⟨law_892 hz hd hL hi h K, List.forall_mem_cons.mpr ⟨law_955 hz hd hL hi h K, List.forall_mem_cons.mpr ⟨law_1008 hz hd hL hi h K, fun _ h => absurd h List.not_mem_nil⟩⟩⟩⟩⟩⟩⟩⟩⟩⟩⟩⟩⟩⟩⟩⟩⟩⟩⟩⟩⟩⟩⟩⟩⟩⟩
    refine zT.step ct_L_law_ok ?_
    refine zT.step ct_L_law_ok ?_
    refine zT.step ct_L_law_ok ?_
    refine Exists.intro i (And.intro ⟨rfl, ⟨by decide, by decide⟩, (show i < L by omega), (show L ≤ 1000000 by omega)⟩ ?_)
    refine zT.step ct_L_law_ok ?_
    refine zT.step ct_L_law_ok ?_
    refine zT.step ct_L_law_ok ?_
    exact And.intro (fun _ => K _ _ _ _ _ _ _ h) (fun j t _ ht => all t (List.mem_of_getElem? ht))
theorem L0_nf : ∀ a, a < 64 → z_nf (L0.getD a (0, 0)).1 ≤ 50 ∧ (Nat.ble 20 (L0.getD a (0, 0)).1 = true → (L0.getD a (0, 0)).2 ≤ 50) := by decide +kernel
theorem rho_first : ∀ (a : Nat) (sh : zSh), L0[a]? = some sh → ∀ k, z_rl sh k = true → (mm muF.1 muF.2.1 none).2.2 a k = muF.2.2 a k := by
  intro a sh hL k hk
  have ha : a < 64 := (List.getElem?_eq_some_iff.mp hL).1
  have hs : L0.getD a (0, 0) = sh := by rw [List.getD_eq_getElem?_getD, hL]; rfl
  have nf := L0_nf a ha
  rw [hs] at nf
  have hk50 : k < 50 := by
    unfold z_rl at hk
    rw [Bool.or_eq_true, Bool.and_eq_true, Bool.and_eq_true, Bool.and_eq_true] at hk
    rcases hk with ⟨⟨-, h2⟩, -⟩ | ⟨h1, h2⟩
    · have := Nat.blt_eq.mp h2
      omega
    · have := Nat.blt_eq.mp h2
      have := nf.2 h1
      omega
  have c := muF_chk
  unfold z_chk at c
  have c := List.all_eq_true.mp (List.all_eq_true.mp c a (List.mem_range.mpr ha)) k (List.mem_range.mpr hk50)
  rw [hs, hk, Bool.not_true, Bool.false_or] at c
  exact of_decide_eq_true c
theorem law_start {fz fd : Int32 → Int32} (hz : z_lcg fz fd) {L d : Nat} {xs : Nat → Int32} (hd : 60 ≤ d) (hL : L ≤ 3072) : zT (L, xs) d m_L_law QL 64 3848 0 [some (.ref 1000003), none, none, none] [] [] mu0 := by
  refine zT.step ct_L_law_ok ?_
  refine And.intro ⟨by decide, by decide, by decide⟩ ?_
  refine zT.step ct_L_law_ok ?_
  refine zT.step ct_L_law_ok ?_
  refine And.intro ⟨by omega, by decide⟩ (Exists.intro 49 (Exists.intro 1800 (Exists.intro _ (And.intro ⟨by decide, by decide⟩ (And.intro (s_iTax (μ := z_zr mu0 0) (by omega)) (fun w L2 μ2 hw => ?_))))))
  obtain ⟨rfl, rfl, rfl⟩ := hw
  refine zT.step ct_L_law_ok ?_
  refine zT.step ct_L_law_ok ?_
  refine And.intro ⟨by decide, by decide, by decide⟩ ?_
  refine zT.step ct_L_law_ok ?_
  refine zT.step ct_L_law_ok ?_
  refine And.intro ⟨by omega, by decide⟩ (Exists.intro 13 (Exists.intro 2000 (Exists.intro _ (And.intro ⟨by decide, by decide⟩ (And.intro (s_iModel (μ := z_zr (cX (z_zr mu0 0) 4) 50) (by omega)) (fun w L2 μ2 hw => ?_))))))
  obtain ⟨rfl, rfl, rfl⟩ := hw
  refine zT.step ct_L_law_ok ?_
  refine zT.step ct_L_law_ok ?_
  refine zT.step ct_L_law_ok ?_
  refine zT.irr (μ' := mm muF.1 muF.2.1 none) ⟨rfl, rfl, rho_first⟩ ?_
  exact law_loop hz hd hL (L + 1) 0 (by omega) (Nat.zero_le _) muF.1 muF.2.1 none 0 0 1 0 INV.first
