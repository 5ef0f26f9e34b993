/-! Rule.value -/
theorem zT.drop {X : zXs} {d : Nat} {M : zMD} {Q : zRQ} {k n pc : Nat} {ls : zLs} {st : List Value} {L : List zSh} {μ : zMem} (i : Nat) (h : zT X d M Q k n pc (ls.set i none) st L μ) : zT X d M Q k n pc ls st L μ := by
  intro ⟨⟨p, l, e, R, s⟩, ⟨m, args, below, meth, c⟩, ⟨b, oa, D, ca⟩, ⟨Z, mc, ms⟩⟩ G H locs cells slots lsM hk hn hR hS hL
  refine h ((p, l, e, R, s), (m, args, below, meth, c), (b, oa, D, ca), (Z, mc, ms)) G H locs cells slots lsM hk hn hR hS ⟨by rw [List.length_set]; exact hL.1, hL.2.1, hL.2.2.1, fun j v hj => ?_⟩
  rw [List.getElem?_set] at hj
  by_cases hi : i = j
  · rw [if_pos hi] at hj
    split at hj <;> cases hj
  · rw [if_neg hi] at hj
    exact hL.2.2.2 j v hj
theorem zT.eqm {X : zXs} {d : Nat} {M : zMD} {Q : zRQ} {k n pc : Nat} {ls : zLs} {st : List Value} {L : List zSh} {μ μ' : zMem} (e : μ = μ') (h : zT X d M Q k n pc ls st L μ') : zT X d M Q k n pc ls st L μ := e ▸ h
theorem s_value_loop {X : zXs} {d a s e q to : Nat} {σ : zSg} {τ : Nat → Nat → Int64} {r : Option Nat} {fr : Int32} {pF : (Nat → Int32) × Nat} (hd : 1 ≤ d) (ha : a < 1000000 ∧ ∃ w, L0[a]? = some (2, w)) (hs : z_rho r a 0 = some s) (he : z_rho r a 1 = some e) (hLs : s < 1000000 ∧ L0[s]? = some (10, 160)) (hLe : e < 1000000 ∧ L0[e]? = some (10, 3)) (hs7 : s ≠ 7) (he7 : e ≠ 7) (hq : q < 3) (hto : σ e q = nI to) (hto2 : to ≤ 160) :
    ∀ (n k : Nat) (f : Nat → Int32) (tp : Nat), (k + n = to ∨ (n = 0 ∧ to ≤ k ∧ k ≤ 160)) → tp ≤ 160 → r_run (σ 6) (σ s) n k (f, tp) = pF → zT X d m_X2_value (fun w L2 μ2 => w = some (.int (r_top pF)) ∧ L2 = L0 ∧ μ2 = mm (z_row σ 7 pF.1) τ r) 0 0 25 [some (.ref a), some (.int (nI q)), some (.ref 6), some (.ref 7), some (.int (nI tp)), some (.int fr), some (.int (nI k)), none] [] L0 (mm (z_row σ 7 f) τ r) := by
  have z0 : ∀ σ' : zSg, z_fv (mm σ' τ r) a 2 0 = .ref s := fun σ' => by show z_rv (z_rho r a 0) = _; rw [hs]; rfl
  have z1 : ∀ σ' : zSg, z_fv (mm σ' τ r) a 2 1 = .ref e := fun σ' => by show z_rv (z_rho r a 1) = _; rw [he]; rfl
  intro n
  induction n with
  | zero =>
    intro k f tp hk htp hF
    have hE : z_row σ 7 f e q = nI to := by rw [z_row_n _ _ _ _ he7]; exact hto
    refine zT.step ct_X2_value_ok ?_
    refine zT.step ct_X2_value_ok ?_
    refine zT.step ct_X2_value_ok ?_
    refine And.intro ha ?_
    rw [z1]
    refine zT.step ct_X2_value_ok ?_
    refine zT.step ct_X2_value_ok ?_
    refine Exists.intro q (And.intro ⟨rfl, hLe.1, 3, hLe.2, hq, by decide⟩ ?_)
    refine zT.step ct_X2_value_ok ?_
    refine And.intro (fun h => ?_) (fun h => ?_)
    · have hF : (f, tp) = pF := hF
      subst hF
      refine zT.step ct_X2_value_ok ?_
      refine zT.step ct_X2_value_ok ?_
      refine And.intro (fun h2 => ?_) (fun h2 => ?_)
      · have h2 : nI tp ≤ 0 := h2
        have h3 : tp = 0 := by
          have := (i_le (x := nI tp) (y := 0) (a := tp) (b := 0) rfl rfl (by omega) (by omega)).mp h2
          omega
        refine zT.step ct_X2_value_ok ?_
        refine zT.step ct_X2_value_ok ?_
        exact And.intro (by simp [r_top, h3]) (And.intro rfl rfl)
      · have h2 : ¬ nI tp ≤ 0 := h2
        have h3 : 0 < tp := by
          rcases Nat.eq_zero_or_pos tp with q | q
          · exact absurd (by rw [q]; decide) h2
          · exact q
        refine zT.step ct_X2_value_ok ?_
        refine zT.step ct_X2_value_ok ?_
        refine zT.step ct_X2_value_ok ?_
        refine Exists.intro 0 (And.intro ⟨rfl, by decide, 160, rfl, by decide, by decide⟩ ?_)
        refine zT.step ct_X2_value_ok ?_
        refine zT.step ct_X2_value_ok ?_
        refine And.intro ?_ (And.intro rfl rfl)
        show some (Value.int (z_row σ 7 f 7 0)) = _
        rw [z_row_s]
        simp [r_top, h3]
    · have h : ¬ z_row σ 7 f e q ≤ nI k := h
      rw [hE] at h
      exact absurd ((i_le rfl rfl (by omega) (by omega)).mpr (by omega)) h
  | succ n ih =>
    intro k f tp hk htp hF
    have hk : k + (n + 1) = to := by omega
    have hE : z_row σ 7 f e q = nI to := by rw [z_row_n _ _ _ _ he7]; exact hto
    have hV : ∀ v, z_row σ 7 f s v = σ s v := fun v => by rw [z_row_n _ _ _ _ hs7]
    refine zT.step ct_X2_value_ok ?_
    refine zT.step ct_X2_value_ok ?_
    refine zT.step ct_X2_value_ok ?_
    refine And.intro ha ?_
    rw [z1]
    refine zT.step ct_X2_value_ok ?_
    refine zT.step ct_X2_value_ok ?_
    refine Exists.intro q (And.intro ⟨rfl, hLe.1, 3, hLe.2, hq, by decide⟩ ?_)
    refine zT.step ct_X2_value_ok ?_
    refine And.intro (fun h => ?_) (fun h => ?_)
    · have h : z_row σ 7 f e q ≤ nI k := h
      rw [hE] at h
      have := (i_le (x := nI to) (y := nI k) rfl rfl (by omega) (by omega)).mp h
      omega
    · refine zT.step ct_X2_value_ok ?_
      refine zT.step ct_X2_value_ok ?_
      refine And.intro ha ?_
      rw [z0]
      refine zT.step ct_X2_value_ok ?_
      refine zT.step ct_X2_value_ok ?_
      refine Exists.intro k (And.intro ⟨rfl, hLs.1, 160, hLs.2, by omega, by decide⟩ ?_)
      have hF : r_run (σ 6) (σ s) n (k + 1) (r_step (σ 6) (σ s k) (f, tp)) = pF := hF
      show zT X d m_X2_value _ 0 0 43 _ [.int (z_row σ 7 f s k)] _ _
      rw [hV]
      generalize σ s k = sv at hF ⊢
      have back : ∀ (g : Nat → Int32) (tq : Nat), r_step (σ 6) sv (f, tp) = (g, tq) → zT X d m_X2_value (fun w L2 μ2 => w = some (.int (r_top pF)) ∧ L2 = L0 ∧ μ2 = mm (z_row σ 7 pF.1) τ r) 0 0 155 [some (.ref a), some (.int (nI q)), some (.ref 6), some (.ref 7), some (.int (nI tq)), some (.int fr), some (.int (nI k)), some (.int sv)] [] L0 (mm (z_row σ 7 g) τ r) := by
        intro g tq hg
        rw [hg] at hF
        have htq : tq ≤ 160 := by have := r_top_le (vals := σ 6) (s := sv) (p := (f, tp)) htp; rw [hg] at this; exact this
        refine zT.step ct_X2_value_ok ?_
        refine zT.step ct_X2_value_ok ?_
        refine zT.drop 7 ?_
        rw [nI_1]
        exact ih (k + 1) g tq (Or.inl (by omega)) htq hF
      refine zT.step ct_X2_value_ok ?_
      refine zT.step ct_X2_value_ok ?_
      refine zT.step ct_X2_value_ok ?_
      refine zT.step ct_X2_value_ok ?_
      refine And.intro (fun h1 => ?_) (fun h1 => ?_)
      · have h1 : sv < -6 := h1
        have un : ∀ (h2 : sv = -18 ∨ sv = -19), zT X d m_X2_value (fun w L2 μ2 => w = some (.int (r_top pF)) ∧ L2 = L0 ∧ μ2 = mm (z_row σ 7 pF.1) τ r) 0 0 99 [some (.ref a), some (.int (nI q)), some (.ref 6), some (.ref 7), some (.int (nI tp)), some (.int fr), some (.int (nI k)), some (.int sv)] [] L0 (mm (z_row σ 7 f) τ r) := by
          intro h2
          refine zT.step ct_X2_value_ok ?_
          refine zT.step ct_X2_value_ok ?_
          refine zT.step ct_X2_value_ok ?_
          refine And.intro (fun h3 => ?_) (fun h3 => ?_)
          · have h3 : nI tp < 1 := h3
            have h3 : tp < 1 := (i_lt (x := nI tp) (y := 1) (b := 1) rfl rfl (by omega) (by omega)).mp h3
            exact back f tp (by unfold r_step; rw [if_pos h1, if_pos h2, if_neg (show ¬ 1 ≤ tp by omega)])
          · have h3 : ¬ nI tp < 1 := h3
            have h3 : 1 ≤ tp := by
              rcases Nat.lt_or_ge tp 1 with q | q
              · exact absurd ((i_lt (x := nI tp) (y := 1) (b := 1) rfl rfl (by omega) (by omega)).mpr q) h3
              · exact q
            obtain ⟨t, rfl⟩ : ∃ t, tp = t + 1 := ⟨tp - 1, by omega⟩
            refine zT.step ct_X2_value_ok ?_
            refine zT.step ct_X2_value_ok ?_
            refine zT.step ct_X2_value_ok ?_
            refine zT.step ct_X2_value_ok ?_
            refine zT.step ct_X2_value_ok ?_
            refine zT.step ct_X2_value_ok ?_
            refine zT.step ct_X2_value_ok ?_
            refine zT.step ct_X2_value_ok ?_
            refine zT.step ct_X2_value_ok ?_
            refine zT.step ct_X2_value_ok ?_
            refine Exists.intro t (And.intro ⟨nI_pred t, by decide, 160, rfl, by omega, by decide⟩ ?_)
            refine zT.step ct_X2_value_ok ?_
            refine And.intro hd (zF.use s_alone ?_)
            refine zT.step ct_X2_value_ok ?_
            refine Exists.intro t (And.intro ⟨nI_pred t, by decide, 160, rfl, by omega, by decide⟩ ?_)
            refine zT.step ct_X2_value_ok ?_
            refine zT.eqm ?_ (back (upd f t (f_al sv (f t))) (t + 1) (by unfold r_step; rw [if_pos h1, if_pos h2, if_pos (show 1 ≤ t + 1 by omega)]; rfl))
            rw [mm_sI, z_row_up]
            show mm (z_row σ 7 (upd f t (f_al sv (z_row σ 7 f 7 t)))) τ r = _
            rw [z_row_s]
        refine zT.step ct_X2_value_ok ?_
        refine zT.step ct_X2_value_ok ?_
        refine zT.step ct_X2_value_ok ?_
        refine And.intro (fun h2 => un (Or.inl h2)) (fun h2 => ?_)
        have h2 : ¬ sv = -18 := h2
        refine zT.step ct_X2_value_ok ?_
        refine zT.step ct_X2_value_ok ?_
        refine zT.step ct_X2_value_ok ?_
        refine And.intro (fun h3 => un (Or.inr h3)) (fun h3 => ?_)
        have h3 : ¬ sv = -19 := h3
        have h23 : ¬ (sv = -18 ∨ sv = -19) := fun q => q.elim h2 h3
        refine zT.step ct_X2_value_ok ?_
        refine zT.step ct_X2_value_ok ?_
        refine zT.step ct_X2_value_ok ?_
        refine And.intro (fun h4 => ?_) (fun h4 => ?_)
        · have h4 : nI tp < 2 := h4
          have h4 : tp < 2 := (i_lt (x := nI tp) (y := 2) (b := 2) rfl rfl (by omega) (by omega)).mp h4
          exact back f tp (by unfold r_step; rw [if_pos h1, if_neg h23, if_neg (show ¬ 2 ≤ tp by omega)])
        · have h4 : ¬ nI tp < 2 := h4
          have h4 : 2 ≤ tp := by
            rcases Nat.lt_or_ge tp 2 with q | q
            · exact absurd ((i_lt (x := nI tp) (y := 2) (b := 2) rfl rfl (by omega) (by omega)).mpr q) h4
            · exact q
          obtain ⟨t, rfl⟩ : ∃ t, tp = t + 2 := ⟨tp - 2, by omega⟩
          refine zT.step ct_X2_value_ok ?_
          show zT X d m_X2_value _ 0 0 134 [some (.ref a), some (.int (nI q)), some (.ref 6), some (.ref 7), some (.int (nI (t + 2) + (-1))), some (.int fr), some (.int (nI k)), some (.int sv)] [] L0 _
          rw [pk_m1 (t + 1)]
          refine zT.step ct_X2_value_ok ?_
          refine zT.step ct_X2_value_ok ?_
          refine zT.step ct_X2_value_ok ?_
          refine zT.step ct_X2_value_ok ?_
          refine zT.step ct_X2_value_ok ?_
          refine zT.step ct_X2_value_ok ?_
          refine zT.step ct_X2_value_ok ?_
          refine zT.step ct_X2_value_ok ?_
          refine zT.step ct_X2_value_ok ?_
          refine zT.step ct_X2_value_ok ?_
          refine Exists.intro t (And.intro ⟨nI_pred t, by decide, 160, rfl, by omega, by decide⟩ ?_)
          refine zT.step ct_X2_value_ok ?_
          refine zT.step ct_X2_value_ok ?_
          refine zT.step ct_X2_value_ok ?_
          refine Exists.intro (t + 1) (And.intro ⟨rfl, by decide, 160, rfl, by omega, by decide⟩ ?_)
          refine zT.step ct_X2_value_ok ?_
          refine And.intro hd (zF.use s_joined ?_)
          refine zT.step ct_X2_value_ok ?_
          refine Exists.intro t (And.intro ⟨nI_pred t, by decide, 160, rfl, by omega, by decide⟩ ?_)
          refine zT.eqm ?_ (back (upd f t (f_jo sv (f t) (f (t + 1)))) (t + 1) (by unfold r_step; rw [if_pos h1, if_neg h23, if_pos (show 2 ≤ t + 2 by omega)]; rfl))
          rw [mm_sI, z_row_up]
          show mm (z_row σ 7 (upd f t (f_jo sv (z_row σ 7 f 7 t) (z_row σ 7 f 7 (t + 1))))) τ r = _
          rw [z_row_s]
      · have h1 : ¬ sv < -6 := h1
        refine zT.step ct_X2_value_ok ?_
        refine zT.step ct_X2_value_ok ?_
        refine zT.step ct_X2_value_ok ?_
        refine And.intro ⟨by decide, rfl⟩ ?_
        refine zT.step ct_X2_value_ok ?_
        refine And.intro (fun h2 => ?_) (fun h2 => ?_)
        · have h2 : Int32.ofNat 160 ≤ nI tp := h2
          have h2 : 160 ≤ tp := (i_le (x := Int32.ofNat 160) (y := nI tp) (a := 160) rfl rfl (by omega) (by omega)).mp h2
          exact back f tp (by unfold r_step; rw [if_neg h1, if_neg (show ¬ tp < 160 by omega)])
        · have h2 : ¬ Int32.ofNat 160 ≤ nI tp := h2
          have h2 : tp < 160 := by
            rcases Nat.lt_or_ge tp 160 with q | q
            · exact q
            · exact absurd ((i_le (x := Int32.ofNat 160) (y := nI tp) (a := 160) rfl rfl (by omega) (by omega)).mpr q) h2
          have put : ∀ v : Int32, v = (if sv < 0 then σ 6 (-1 - sv).toNatClampNeg else sv) → zT X d m_X2_value (fun w L2 μ2 => w = some (.int (r_top pF)) ∧ L2 = L0 ∧ μ2 = mm (z_row σ 7 pF.1) τ r) 0 0 78 [some (.ref a), some (.int (nI q)), some (.ref 6), some (.ref 7), some (.int (nI tp)), some (.int fr), some (.int (nI k)), some (.int sv)] [.int v, .int (nI tp), .ref 7] L0 (mm (z_row σ 7 f) τ r) := by
            intro v hv
            refine zT.step ct_X2_value_ok ?_
            refine Exists.intro tp (And.intro ⟨rfl, by decide, 160, rfl, h2, by decide⟩ ?_)
            refine zT.step ct_X2_value_ok ?_
            refine zT.step ct_X2_value_ok ?_
            rw [nI_1]
            refine zT.eqm ?_ (back (upd f tp v) (tp + 1) (by unfold r_step; rw [if_neg h1, if_pos (show tp < 160 from h2), ← hv]))
            rw [mm_sI, z_row_up]
          refine zT.step ct_X2_value_ok ?_
          refine zT.step ct_X2_value_ok ?_
          refine zT.step ct_X2_value_ok ?_
          refine zT.step ct_X2_value_ok ?_
          refine And.intro (fun h3 => ?_) (fun h3 => ?_)
          · have h3 : sv < 0 := h3
            obtain ⟨j, hj, hv⟩ := z_vix h1 h3
            refine zT.step ct_X2_value_ok ?_
            refine zT.step ct_X2_value_ok ?_
            refine zT.step ct_X2_value_ok ?_
            refine zT.step ct_X2_value_ok ?_
            refine zT.step ct_X2_value_ok ?_
            refine Exists.intro j (And.intro ⟨hv, by decide, 6, rfl, hj, by decide⟩ ?_)
            refine put _ ?_
            show z_row σ 7 f 6 j = _
            rw [z_row_n _ _ _ _ (by decide), if_pos h3, hv, nI_clamp (by omega)]
          · have h3 : ¬ sv < 0 := h3
            refine zT.step ct_X2_value_ok ?_
            refine zT.step ct_X2_value_ok ?_
            exact put _ (by rw [if_neg h3])

/-- Rule.value(q, values, stack) -/
theorem s_value {X : zXs} {d a s e q to fn : Nat} {σ : zSg} {τ : Nat → Nat → Int64} {r : Option Nat} (hd : 1 ≤ d) (ha : a < 1000000 ∧ ∃ w, L0[a]? = some (2, w)) (hs : z_rho r a 0 = some s) (he : z_rho r a 1 = some e) (hLs : s < 1000000 ∧ L0[s]? = some (10, 160)) (hLe : e < 1000000 ∧ L0[e]? = some (10, 3)) (hs7 : s ≠ 7) (he7 : e ≠ 7) (hq : q < 3) (hto : σ e q = nI to) (hto2 : to ≤ 160) (hfr : (q = 0 ∧ fn = 0) ∨ (0 < q ∧ σ e (q - 1) = nI fn)) (hfn : fn ≤ 160) :
    zF X d m_X2_value [.ref a, .int (nI q), .ref 6, .ref 7] L0 (mm σ τ r) (some (.int (r_top (r_run (σ 6) (σ s) (to - fn) fn (σ 7, 0))))) (mm (z_row σ 7 (r_run (σ 6) (σ s) (to - fn) fn (σ 7, 0)).1) τ r) := by
  have z1 : ∀ σ' : zSg, z_fv (mm σ' τ r) a 2 1 = .ref e := fun σ' => by show z_rv (z_rho r a 1) = _; rw [he]; rfl
  have lp := s_value_loop (X := X) (d := d) (τ := τ) (fr := nI fn) hd ha hs he hLs hLe hs7 he7 hq hto hto2 (to - fn) fn (σ 7) 0 (by omega) (by omega) rfl
  rw [z_row_id] at lp
  refine zF.of mk_X2_value rfl ?_
  refine zT.step ct_X2_value_ok ?_
  refine zT.step ct_X2_value_ok ?_
  refine zT.step ct_X2_value_ok ?_
  refine zT.step ct_X2_value_ok ?_
  refine And.intro (fun h => ?_) (fun h => ?_)
  · have h : nI q = 0 := h
    have h : q = 0 := (i_eq (x := nI q) (y := 0) (b := 0) rfl rfl (by omega) (by omega)).mp h
    have hf0 : fn = 0 := by omega
    refine zT.step ct_X2_value_ok ?_
    refine zT.step ct_X2_value_ok ?_
    refine zT.step ct_X2_value_ok ?_
    refine zT.step ct_X2_value_ok ?_
    refine zT.step ct_X2_value_ok ?_
    subst hf0
    exact lp
  · have h : ¬ nI q = 0 := h
    have h : 0 < q := by
      rcases Nat.eq_zero_or_pos q with z | z
      · exact absurd (by rw [z]; decide) h
      · exact z
    have hf0 : σ e (q - 1) = nI fn := hfr.elim (fun z => absurd z.1 (by omega)) (fun z => z.2)
    refine zT.step ct_X2_value_ok ?_
    refine zT.step ct_X2_value_ok ?_
    refine And.intro ha ?_
    rw [z1]
    refine zT.step ct_X2_value_ok ?_
    refine zT.step ct_X2_value_ok ?_
    refine zT.step ct_X2_value_ok ?_
    refine zT.step ct_X2_value_ok ?_
    refine Exists.intro (q - 1) (And.intro ⟨?_, hLe.1, 3, hLe.2, by omega, by decide⟩ ?_)
    · obtain ⟨z, rfl⟩ : ∃ z, q = z + 1 := ⟨q - 1, by omega⟩
      exact nI_pred z
    show zT X d m_X2_value _ 0 0 19 _ [.int (σ e (q - 1))] _ _
    rw [hf0]
    refine zT.step ct_X2_value_ok ?_
    refine zT.step ct_X2_value_ok ?_
    refine zT.step ct_X2_value_ok ?_
    exact lp
