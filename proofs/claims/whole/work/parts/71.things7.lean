/-! the reference's things, taken -/
def PA (a A : zSg) : Prop := (∀ c, 16 ≤ c → A c = a c) ∧ ∀ k, k ≠ 2 → A 1 k = a 1 k
def PW (σ σ' : zSg) : Prop := (∀ b, b ≠ 50 → b ≠ 54 → b ≠ 55 → σ' b = σ b) ∧ ∀ k, k ≠ 11 → σ' 50 k = σ 50 k
theorem PA.rf {a : zSg} : PA a a := ⟨fun _ _ => rfl, fun _ _ => rfl⟩
theorem PW.rf {a : zSg} : PW a a := ⟨fun _ _ _ _ => rfl, fun _ _ => rfl⟩
theorem PA.trans {a b c : zSg} (h : PA a b) (h2 : PA b c) : PA a c := ⟨fun x hx => (h2.1 x hx).trans (h.1 x hx), fun k hk => (h2.2 k hk).trans (h.2 k hk)⟩
theorem PW.trans {a b c : zSg} (h : PW a b) (h2 : PW b c) : PW a c := ⟨fun x x0 x4 x5 => (h2.1 x x0 x4 x5).trans (h.1 x x0 x4 x5), fun k hk => (h2.2 k hk).trans (h.2 k hk)⟩
theorem pa_come {a : zSg} {n : Nat} {x y z : Int32} (hn : n < 8) : PA a (u_come a n x y z) := by
  refine ⟨fun c hc => u_come_o _ _ _ _ _ _ (by omega) (by omega), fun k hk => ?_⟩
  unfold u_come
  rw [zu_k _ _ _ _ _ hk, zu_n _ _ _ _ _ (by omega), zu_n _ _ _ _ _ (by omega), zu_n _ _ _ _ _ (by omega), zu_n _ _ _ _ _ (by omega)]
theorem pw_come {σ : zSg} {n : Nat} {x y z : Int32} : PW σ (w_come σ n x y z) := by
  unfold w_come
  refine ⟨fun b b0 b4 b5 => ?_, fun k hk => ?_⟩
  · rw [zu_n _ _ _ _ _ b0, zu_n _ _ _ _ _ b5, zu_n _ _ _ _ _ b5, zu_n _ _ _ _ _ b5, zu_n _ _ _ _ _ b4]
  · rw [zu_k _ _ _ _ _ hk, zu_n _ _ _ _ _ (by decide), zu_n _ _ _ _ _ (by decide), zu_n _ _ _ _ _ (by decide), zu_n _ _ _ _ _ (by decide)]
theorem RE.come {a σ : zSg} {n t m : Nat} {x y z : Int32} (H : RE a σ n t m) (hn : n < 8) (hk : k_thing x y z = true) : RE (u_come a n x y z) (w_come σ n x y z) (n + 1) t m := by
  obtain ⟨⟨h1, h2, h3, h4, h5, h6⟩, ⟨h7, h8⟩, h9, h10, h11⟩ := H
  have A := pa_come (a := a) (x := x) (y := y) (z := z) hn
  have W := pw_come (σ := σ) (n := n) (x := x) (y := y) (z := z)
  unfold k_thing at hk
  rw [Bool.and_eq_true, Bool.and_eq_true] at hk
  obtain ⟨⟨k1, k2⟩, k3⟩ := hk
  obtain ⟨xn, hxn, rfl⟩ := rg_t (by decide) k1
  obtain ⟨yn, hyn, rfl⟩ := rg_t (by decide) k2
  obtain ⟨zn, hzn, rfl⟩ := rg_t (by decide) k3
  have u0 : u_come a n (nI xn) (nI yn) (nI zn) (8 + n) 0 = nI xn := by unfold u_come; rw [zu_n _ _ _ _ _ (by omega), zu_k _ _ _ _ _ (by decide), zu_k _ _ _ _ _ (by decide), zu_k _ _ _ _ _ (by decide), z_up_s]
  have u1 : u_come a n (nI xn) (nI yn) (nI zn) (8 + n) 1 = nI yn := by unfold u_come; rw [zu_n _ _ _ _ _ (by omega), zu_k _ _ _ _ _ (by decide), zu_k _ _ _ _ _ (by decide), z_up_s]
  have u2 : u_come a n (nI xn) (nI yn) (nI zn) (8 + n) 2 = nI 5 := by unfold u_come; rw [zu_n _ _ _ _ _ (by omega), zu_k _ _ _ _ _ (by decide), z_up_s]; rfl
  have u3 : u_come a n (nI xn) (nI yn) (nI zn) (8 + n) 3 = nI zn := by unfold u_come; rw [zu_n _ _ _ _ _ (by omega), z_up_s]
  have w0 : w_come σ n (nI xn) (nI yn) (nI zn) 54 n = nI xn := by unfold w_come; rw [zu_n _ _ _ _ _ (by decide), zu_n _ _ _ _ _ (by decide), zu_n _ _ _ _ _ (by decide), zu_n _ _ _ _ _ (by decide), z_up_s]
  have w1 : w_come σ n (nI xn) (nI yn) (nI zn) 55 (3 * n) = nI yn := by unfold w_come; rw [zu_n _ _ _ _ _ (by decide), zu_k _ _ _ _ _ (by omega), zu_k _ _ _ _ _ (by omega), z_up_s]
  have w2 : w_come σ n (nI xn) (nI yn) (nI zn) 55 (3 * n + 1) = nI 5 := by unfold w_come; rw [zu_n _ _ _ _ _ (by decide), zu_k _ _ _ _ _ (by omega), z_up_s]; rfl
  have w3 : w_come σ n (nI xn) (nI yn) (nI zn) 55 (3 * n + 2) = nI zn := by unfold w_come; rw [zu_n _ _ _ _ _ (by decide), z_up_s]
  have o4 : ∀ i, i ≠ n → w_come σ n (nI xn) (nI yn) (nI zn) 54 i = σ 54 i := fun i hi => by unfold w_come; rw [zu_n _ _ _ _ _ (by decide), zu_n _ _ _ _ _ (by decide), zu_n _ _ _ _ _ (by decide), zu_n _ _ _ _ _ (by decide), zu_k _ _ _ _ _ hi]
  have o5 : ∀ i, i < 3 * n → w_come σ n (nI xn) (nI yn) (nI zn) 55 i = σ 55 i := fun i hi => by unfold w_come; rw [zu_n _ _ _ _ _ (by decide), zu_k _ _ _ _ _ (by omega), zu_k _ _ _ _ _ (by omega), zu_k _ _ _ _ _ (by omega), zu_n _ _ _ _ _ (by decide)]
  refine ⟨⟨by omega, z_up_s _ _ _ _, h3, h4, by rw [W.2 3 (by decide)]; exact h5, by rw [W.2 4 (by decide)]; exact h6⟩, ⟨by rw [W.2 7 (by decide), A.2 5 (by decide)]; exact h7, by rw [W.2 8 (by decide), A.2 6 (by decide)]; exact h8⟩, fun i hi => ?_, fun i hi => ?_, fun t' ht => ((h11 t' ht).mono (W.1 51 (by decide) (by decide) (by decide)) (W.1 52 (by decide) (by decide) (by decide))).cls (fun b hb => A.1 b hb)⟩
  · by_cases q : i = n
    · rw [q, u0, u1, u2, u3]
      exact ⟨w0, w1, w2, w3⟩
    · rw [u_come_o _ _ _ _ _ _ (by omega) (by omega), o4 i q, o5 _ (by omega), o5 _ (by omega), o5 _ (by omega)]
      exact h9 i (by omega)
  · by_cases q : i = n
    · rw [q]
      exact ⟨⟨xn, hxn, u0⟩, ⟨yn, hyn, u1⟩, ⟨5, by decide, u2⟩, ⟨zn, hzn, u3⟩⟩
    · rw [u_come_o _ _ _ _ _ _ (by omega) (by omega)]
      exact h10 i (by omega)
theorem RE.thing {a σ : zSg} {n t m : Nat} {x y z : Int32} (H : RE a σ n t m) (hm : a 1 2 = nI n) : RE (u_thing a n x y z) (w_thing σ n x y z) (n_thing n x y z) t m ∧ PA a (u_thing a n x y z) ∧ PW σ (w_thing σ n x y z) ∧ u_thing a n x y z 1 2 = nI (n_thing n x y z) := by
  refine ⟨?_, ?_, ?_, (u_thing_m a n H.1.1 hm x y z).2⟩
  · unfold u_thing w_thing n_thing
    cases hk : k_thing x y z with
    | false => exact H
    | true =>
      show RE (if n = 8 then a else u_come a n x y z) (if n = 8 then σ else w_come σ n x y z) (if n = 8 then n else n + 1) t m
      by_cases q : n = 8
      · rw [if_pos q, if_pos q, if_pos q]; exact H
      · rw [if_neg q, if_neg q, if_neg q]; exact H.come (by have := H.1.1; omega) hk
  · unfold u_thing
    cases hk : k_thing x y z with
    | false => exact PA.rf
    | true =>
      show PA a (if n = 8 then a else u_come a n x y z)
      by_cases q : n = 8
      · rw [if_pos q]; exact PA.rf
      · rw [if_neg q]; exact pa_come (by have := H.1.1; omega)
  · unfold w_thing
    cases hk : k_thing x y z with
    | false => exact PW.rf
    | true =>
      show PW σ (if n = 8 then σ else w_come σ n x y z)
      by_cases q : n = 8
      · rw [if_pos q]; exact PW.rf
      · rw [if_neg q]; exact pw_come
theorem SH.pp {a A σ σ' : zSg} (h : SH a σ) (hA : PA a A) (hW : PW σ σ') : SH A σ' := by
  intro u hu
  rw [hA.1 _ (show 16 ≤ 42 + 2 * u by omega), hA.1 _ (show 16 ≤ 43 + 2 * u by omega), hW.1 60 (by decide) (by decide) (by decide), hW.1 61 (by decide) (by decide) (by decide), hW.1 62 (by decide) (by decide) (by decide), hW.1 63 (by decide) (by decide) (by decide)]
  exact h u hu
theorem things_h {sz p k : Nat} (hs : sz ≤ 40) (hp : p < 2 ^ 31) (hk : k ≤ 8) : f_holds (nI sz) (nI p + 3 * nI k) 3 = decide (p + 3 * k + 3 ≤ sz) := by
  have e : nI p + 3 * nI k = nI p + nI (3 * k) := by rw [← nI_mulN]; rfl
  rw [e]
  by_cases q : p + 3 * k < 2 ^ 31
  · rw [nI_add]
    exact holdsN (m := 3) hs (by decide) q
  · rw [decide_eq_false (show ¬ p + 3 * k + 3 ≤ sz by omega)]
    refine holds_neg1 ?_
    rw [Int32.lt_iff_toInt_lt, Int32.toInt_add, nI_toInt hp, nI_toInt (by omega)]
    have e0 : (0 : Int32).toInt = 0 := by decide
    rw [e0, Int.bmod_def]
    split <;> omega
theorem things_l {sz p k : Nat} (hs : sz ≤ 40) (hp : p < 2 ^ 31) (hk : k ≤ 8) : nI p ≤ nI sz - nI (3 * k) - nI 3 ↔ p + 3 * k + 3 ≤ sz := by
  rw [Int32.le_iff_toInt_le, Int32.toInt_sub, Int32.toInt_sub, nI_toInt hp, nI_toInt (show sz < 2 ^ 31 by omega), nI_toInt (show 3 * k < 2 ^ 31 by omega), nI_toInt (show 3 < 2 ^ 31 by decide)]
  have e1 : ((sz : Int) - ((3 * k : Nat) : Int)).bmod (2 ^ 32) = (sz : Int) - (3 * k : Nat) := Int.bmod_eq_of_le_mul_two (by omega) (by omega)
  have e2 : ((sz : Int) - ((3 * k : Nat) : Int) - (3 : Nat)).bmod (2 ^ 32) = (sz : Int) - (3 * k : Nat) - (3 : Nat) := Int.bmod_eq_of_le_mul_two (by omega) (by omega)
  rw [e1, e2]
  omega
theorem t_things {X : zXs} {d n t m : Nat} {a σ : zSg} {τ : Nat → Nat → Int64} {r : Option Nat} {x y z c : Int32} (hd : 2 ≤ d) (hE : RE a σ n t m) (hm : a 1 2 = nI n) (hS : SH a σ) : zC X d 0 0 m_X7_things [.ref 50, .int x, .int y, .int z, .int c] L0 (mm σ τ r) (fun w L2 μ2 => w = some (.int (v_things a n x y z c).1) ∧ L2 = L0 ∧ ∃ σ' n', μ2 = mm σ' τ r ∧ RE (v_things a n x y z c).2 σ' n' t m ∧ (v_things a n x y z c).2 1 2 = nI n' ∧ n ≤ n' ∧ PA a (v_things a n x y z c).2 ∧ PW σ σ') := by
  have bad : (rg x 4 && rg y 3 && rg c 9) = false → zT X d m_X7_things (fun w L2 μ2 => w = some (.int (v_things a n x y z c).1) ∧ L2 = L0 ∧ ∃ σ' n', μ2 = mm σ' τ r ∧ RE (v_things a n x y z c).2 σ' n' t m ∧ (v_things a n x y z c).2 1 2 = nI n' ∧ n ≤ n' ∧ PA a (v_things a n x y z c).2 ∧ PW σ σ') 0 0 32 [some (.ref 50), some (.int x), some (.int y), some (.int z), some (.int c), none, none, none] [] L0 (mm σ τ r) := by
    intro h
    have hk : v_things a n x y z c = (-2, a) := by unfold v_things; rw [h]; rfl
    rw [hk]
    refine zT.step ct_X7_things_ok ?_
    refine zT.step ct_X7_things_ok ?_
    exact And.intro rfl (And.intro rfl ⟨σ, n, rfl, hE, hm, Nat.le_refl _, PA.rf, PW.rf⟩)
  refine zC.of mk_X7_things rfl ?_
  refine zT.step ct_X7_things_ok ?_
  refine zT.step ct_X7_things_ok ?_
  refine And.intro (by omega) (zF.use (t_isSheet (by omega)) ?_)
  refine zT.step ct_X7_things_ok ?_
  refine And.intro (fun q => bad (by rw [fb0 q]; rfl)) (fun q => ?_)
  have hx := fb1 q
  refine zT.step ct_X7_things_ok ?_
  refine zT.step ct_X7_things_ok ?_
  refine zT.step ct_X7_things_ok ?_
  refine zT.step ct_X7_things_ok ?_
  refine zT.step ct_X7_things_ok ?_
  refine And.intro (by omega) (zF.use (t_inR (m := 2) (by decide) rfl) ?_)
  refine zT.step ct_X7_things_ok ?_
  refine And.intro (fun q => bad (by rw [fb0 q, Bool.and_false]; rfl)) (fun q => ?_)
  have hy := fb1 q
  refine zT.step ct_X7_things_ok ?_
  refine zT.step ct_X7_things_ok ?_
  refine zT.step ct_X7_things_ok ?_
  refine zT.step ct_X7_things_ok ?_
  refine zT.step ct_X7_things_ok ?_
  refine And.intro (by omega) (zF.use (t_inR (m := 8) (by decide) rfl) ?_)
  refine zT.step ct_X7_things_ok ?_
  refine And.intro (fun q => bad (by rw [fb0 q, Bool.and_false])) (fun q => ?_)
  have hc := fb1 q
  obtain ⟨s, hs, rfl⟩ := rg_t (by omega) hx
  obtain ⟨e, he, rfl⟩ := rg_t (by omega) hc
  have hv : v_things a n (nI s) y z (nI e) = if a (42 + 2 * s) 1 = -1 then (-11, a) else if a (42 + 2 * s) 1 = y then c_things (a (43 + 2 * s)) (a (42 + 2 * s) 2).toNatClampNeg z e 0 a n 0 else (-13, a) := by
    unfold v_things
    rw [hx, hy, hc, nI_clamp (by omega), nI_clamp (by omega)]
    rfl
  refine zT.step ct_X7_things_ok ?_
  refine zT.step ct_X7_things_ok ?_
  refine And.intro ⟨by decide, _, rfl⟩ ?_
  refine zT.step ct_X7_things_ok ?_
  refine zT.step ct_X7_things_ok ?_
  refine Exists.intro s (And.intro ⟨rfl, by decide, 4, rfl, hs, by decide⟩ ?_)
  show zT X d m_X7_things _ 0 0 41 _ [.int (σ 60 s)] _ _
  rcases hS s hs with ⟨m1, g0⟩ | ⟨so, sz, hso, hsz, e1, e2, g0, g1, g2, g3⟩
  · rw [if_pos m1] at hv
    rw [hv, g0]
    refine zT.step ct_X7_things_ok ?_
    refine And.intro (fun _ => ?_) (fun q => absurd rfl q)
    refine zT.step ct_X7_things_ok ?_
    refine zT.step ct_X7_things_ok ?_
    refine And.intro ⟨by decide, _, rfl⟩ ?_
    refine zT.step ct_X7_things_ok ?_
    refine zT.step ct_X7_things_ok ?_
    refine Exists.intro s (And.intro ⟨rfl, by decide, 4, rfl, hs, by decide⟩ ?_)
    show zT X d m_X7_things _ 0 0 63 _ [.int (σ 60 s)] _ _
    rw [g0]
    refine zT.step ct_X7_things_ok ?_
    refine And.intro (fun _ => ?_) (fun q => absurd rfl q)
    refine zT.step ct_X7_things_ok ?_
    refine zT.step ct_X7_things_ok ?_
    exact And.intro rfl (And.intro rfl ⟨σ, n, rfl, hE, hm, Nat.le_refl _, PA.rf, PW.rf⟩)
  rw [e1, if_neg (so_n1 hso), e2, nI_clamp (by omega)] at hv
  rw [g0]
  refine zT.step ct_X7_things_ok ?_
  refine And.intro (fun q => absurd q (by decide)) (fun _ => ?_)
  refine zT.step ct_X7_things_ok ?_
  refine zT.step ct_X7_things_ok ?_
  refine And.intro ⟨by decide, _, rfl⟩ ?_
  refine zT.step ct_X7_things_ok ?_
  refine zT.step ct_X7_things_ok ?_
  refine Exists.intro s (And.intro ⟨rfl, by decide, 4, rfl, hs, by decide⟩ ?_)
  show zT X d m_X7_things _ 0 0 50 _ [.int (σ 61 s)] _ _
  rw [g1]
  refine zT.step ct_X7_things_ok ?_
  refine zT.step ct_X7_things_ok ?_
  refine And.intro (fun q => ?_) (fun q => ?_)
  rotate_left
  · have q : ¬ nI so = y := q
    rw [if_neg q] at hv
    rw [hv]
    refine zT.step ct_X7_things_ok ?_
    refine zT.step ct_X7_things_ok ?_
    exact And.intro rfl (And.intro rfl ⟨σ, n, rfl, hE, hm, Nat.le_refl _, PA.rf, PW.rf⟩)
  have q : nI so = y := q
  rw [if_pos q] at hv
  refine zT.step ct_X7_things_ok ?_
  refine zT.step ct_X7_things_ok ?_
  refine And.intro ⟨by decide, _, rfl⟩ ?_
  refine zT.step ct_X7_things_ok ?_
  refine zT.step ct_X7_things_ok ?_
  refine Exists.intro s (And.intro ⟨rfl, by decide, 4, rfl, hs, by decide⟩ ?_)
  show zT X d m_X7_things _ 0 0 63 _ [.int (σ 60 s)] _ _
  rw [g0]
  refine zT.step ct_X7_things_ok ?_
  refine And.intro (fun q => absurd q (by decide)) (fun _ => ?_)
  generalize hF : a (43 + 2 * s) = F at g3 hv
  generalize v_things a n (nI s) y z (nI e) = R at hv ⊢
  have lp : ∀ (m' k : Nat) (A σ1 : zSg) (n1 : Nat) (came : Int32), k + m' = e → RE A σ1 n1 t m → A 1 2 = nI n1 → n ≤ n1 → PA a A → PW σ σ1 → (k = 0 ∨ ¬ z < 0) → c_things F sz z m' k A n1 came = R → zT X d m_X7_things (fun w L2 μ2 => w = some (.int R.1) ∧ L2 = L0 ∧ ∃ σ' n', μ2 = mm σ' τ r ∧ RE R.2 σ' n' t m ∧ R.2 1 2 = nI n' ∧ n ≤ n' ∧ PA a R.2 ∧ PW σ σ') 0 0 75 [some (.ref 50), some (.int (nI s)), some (.int y), some (.int z), some (.int (nI e)), some (.int came), some (.int (nI k)), none] [] L0 (mm σ1 τ r) := by
    intro m'
    induction m' with
    | zero =>
      intro k A σ1 n1 came hk1 hE1 hm1 hn1 hA hW hz hR
      have hR : (came, A) = R := hR
      subst hR
      have hk1 : k = e := by omega
      subst hk1
      refine zT.step ct_X7_things_ok ?_
      refine zT.step ct_X7_things_ok ?_
      refine zT.step ct_X7_things_ok ?_
      refine And.intro (fun _ => ?_) (fun q => absurd (Int32.le_refl (nI k)) q)
      refine zT.step ct_X7_things_ok ?_
      refine zT.step ct_X7_things_ok ?_
      exact And.intro rfl (And.intro rfl ⟨σ1, n1, rfl, hE1, hm1, hn1, hA, hW⟩)
    | succ m' ih =>
      intro k A σ1 n1 came hk1 hE1 hm1 hn1 hA hW hz hR
      have stop : f_holds (nI sz) (z + 3 * nI k) 3 = false → zT X d m_X7_things (fun w L2 μ2 => w = some (.int R.1) ∧ L2 = L0 ∧ ∃ σ' n', μ2 = mm σ' τ r ∧ RE R.2 σ' n' t m ∧ R.2 1 2 = nI n' ∧ n ≤ n' ∧ PA a R.2 ∧ PW σ σ') 0 0 103 [some (.ref 50), some (.int (nI s)), some (.int y), some (.int z), some (.int (nI e)), some (.int came), some (.int (nI k)), none] [] L0 (mm σ1 τ r) := by
        intro hf
        have e3 : (-12, A) = R := by
          rw [← hR]
          unfold c_things
          rw [hf]
          rfl
        subst e3
        refine zT.step ct_X7_things_ok ?_
        refine zT.step ct_X7_things_ok ?_
        exact And.intro rfl (And.intro rfl ⟨σ1, n1, rfl, hE1, hm1, hn1, hA, hW⟩)
      refine zT.step ct_X7_things_ok ?_
      refine zT.step ct_X7_things_ok ?_
      refine zT.step ct_X7_things_ok ?_
      refine And.intro (fun q => absurd q (nI_ge (show k < e by omega) (by omega))) (fun _ => ?_)
      refine zT.step ct_X7_things_ok ?_
      refine zT.step ct_X7_things_ok ?_
      refine And.intro (fun q => stop ?_) (fun q => ?_)
      · have q : z < 0 := q
        rcases hz with rfl | h
        · have : z + 3 * nI 0 = z := by show z + 3 * 0 = z; rw [Int32.mul_zero, Int32.add_zero]
          rw [this]
          exact holds_neg1 q
        · exact absurd q h
      have hz0 : ¬ z < 0 := q
      obtain ⟨p, hp, rfl⟩ := nI_of (x := z) hz0
      refine zT.step ct_X7_things_ok ?_
      refine zT.step ct_X7_things_ok ?_
      refine zT.step ct_X7_things_ok ?_
      refine And.intro ⟨by decide, _, rfl⟩ ?_
      refine zT.step ct_X7_things_ok ?_
      refine zT.step ct_X7_things_ok ?_
      refine Exists.intro s (And.intro ⟨rfl, by decide, 4, rfl, hs, by decide⟩ ?_)
      refine zT.step ct_X7_things_ok ?_
      refine zT.step ct_X7_things_ok ?_
      refine zT.step ct_X7_things_ok ?_
      refine zT.step ct_X7_things_ok ?_
      refine zT.step ct_X7_things_ok ?_
      refine zT.step ct_X7_things_ok ?_
      show zT X d m_X7_things _ 0 0 100 _ [.int (σ1 62 s - nI 3 * nI k - nI 3), .int (nI p)] _ _
      rw [hW.1 62 (by decide) (by decide) (by decide), g2, nI_mulN]
      have hh := things_h (k := k) hsz hp (by omega)
      rw [hh] at stop
      refine zT.step ct_X7_things_ok ?_
      refine And.intro (fun q => ?_) (fun q => ?_)
      rotate_left
      · have q : ¬ nI p ≤ nI sz - nI (3 * k) - nI 3 := q
        rw [things_l hsz hp (by omega)] at q
        exact stop (decide_eq_false q)
      have q : nI p ≤ nI sz - nI (3 * k) - nI 3 := q
      rw [things_l hsz hp (by omega)] at q
      have ez : nI p + 3 * nI k = nI (p + 3 * k) := by
        rw [← nI_add, ← nI_mulN]; rfl
      have e3 : c_things F sz (nI p) m' (k + 1) (u_thing A n1 (F (p + 3 * k)) (F (p + 3 * k + 1)) (F (p + 3 * k + 2))) (n_thing n1 (F (p + 3 * k)) (F (p + 3 * k + 1)) (F (p + 3 * k + 2))) (if v_thing n1 (F (p + 3 * k)) (F (p + 3 * k + 1)) (F (p + 3 * k + 2)) < 0 then came else came + 1) = R := by
        rw [← hR]
        conv => rhs; unfold c_things
        rw [hh, decide_eq_true q, ez, nI_clamp (by omega)]
        rfl
      have rd : ∀ i, i < sz → σ1 63 (40 * s + i) = F i := fun i hi => by rw [hW.1 63 (by decide) (by decide) (by decide)]; exact g3 i hi
      obtain ⟨T1, T2, T3, T4⟩ := hE1.thing (x := F (p + 3 * k)) (y := F (p + 3 * k + 1)) (z := F (p + 3 * k + 2)) hm1
      have nle : n1 ≤ n_thing n1 (F (p + 3 * k)) (F (p + 3 * k + 1)) (F (p + 3 * k + 2)) := by
        unfold n_thing
        cases k_thing (F (p + 3 * k)) (F (p + 3 * k + 1)) (F (p + 3 * k + 2)) with
        | false => exact Nat.le_refl _
        | true => show n1 ≤ (if n1 = 8 then n1 else n1 + 1); split <;> omega
      have nx := ih (k + 1) _ _ _ _ (by omega) T1 T4 (by omega) (hA.trans T2) (hW.trans T3) (Or.inr hz0) e3
      refine zT.step ct_X7_things_ok ?_
      refine zT.step ct_X7_things_ok ?_
      refine zT.step ct_X7_things_ok ?_
      refine zT.step ct_X7_things_ok ?_
      refine zT.step ct_X7_things_ok ?_
      refine zT.step ct_X7_things_ok ?_
      refine zT.step ct_X7_things_ok ?_
      refine zT.step ct_X7_things_ok ?_
      refine zT.step ct_X7_things_ok ?_
      refine zT.step ct_X7_things_ok ?_
      show zT X d m_X7_things _ 0 0 119 [some (.ref 50), some (.int (nI s)), some (.int y), some (.int (nI p)), some (.int (nI e)), some (.int came), some (.int (nI k)), some (.int (nI 40 * nI s + nI p + nI 3 * nI k))] [] _ _
      rw [nI_mulN, nI_mulN, nI_add, nI_add, show 40 * s + p + 3 * k = 40 * s + (p + 3 * k) by omega]
      refine zT.step ct_X7_things_ok ?_
      refine zT.step ct_X7_things_ok ?_
      refine zT.step ct_X7_things_ok ?_
      refine zT.step ct_X7_things_ok ?_
      refine And.intro ⟨by decide, _, rfl⟩ ?_
      refine zT.step ct_X7_things_ok ?_
      refine zT.step ct_X7_things_ok ?_
      refine Exists.intro (40 * s + (p + 3 * k)) (And.intro ⟨rfl, by decide, 160, rfl, by omega, by decide⟩ ?_)
      refine zT.step ct_X7_things_ok ?_
      refine zT.step ct_X7_things_ok ?_
      refine And.intro ⟨by decide, _, rfl⟩ ?_
      refine zT.step ct_X7_things_ok ?_
      refine zT.step ct_X7_things_ok ?_
      refine zT.step ct_X7_things_ok ?_
      refine zT.step ct_X7_things_ok ?_
      refine Exists.intro (40 * s + (p + 3 * k + 1)) (And.intro ⟨nI_add (40 * s + (p + 3 * k)) 1, by decide, 160, rfl, by omega, by decide⟩ ?_)
      refine zT.step ct_X7_things_ok ?_
      refine zT.step ct_X7_things_ok ?_
      refine And.intro ⟨by decide, _, rfl⟩ ?_
      refine zT.step ct_X7_things_ok ?_
      refine zT.step ct_X7_things_ok ?_
      refine zT.step ct_X7_things_ok ?_
      refine zT.step ct_X7_things_ok ?_
      refine Exists.intro (40 * s + (p + 3 * k + 2)) (And.intro ⟨nI_add (40 * s + (p + 3 * k)) 2, by decide, 160, rfl, by omega, by decide⟩ ?_)
      show zT X d m_X7_things _ 0 0 147 _ [.int (σ1 63 (40 * s + (p + 3 * k + 2))), .int (σ1 63 (40 * s + (p + 3 * k + 1))), .int (σ1 63 (40 * s + (p + 3 * k))), .ref 50, .int came] _ _
      rw [rd _ (by omega), rd _ (by omega), rd _ (by omega)]
      refine zT.step ct_X7_things_ok ?_
      refine And.intro ⟨by omega, by decide, _, rfl⟩ (zF.use (t_thing (by omega) hE1.1.1 hE1.1.2.1) ?_)
      refine zT.step ct_X7_things_ok ?_
      refine And.intro (fun q => ?_) (fun q => ?_)
      · rw [if_pos q] at nx
        refine zT.step ct_X7_things_ok ?_
        refine zT.step ct_X7_things_ok ?_
        refine zT.step ct_X7_things_ok ?_
        refine zT.step ct_X7_things_ok ?_
        refine zT.step ct_X7_things_ok ?_
        rw [nI_1]
        refine zT.drop 7 ?_
        show zT X d m_X7_things _ 0 0 75 [some (.ref 50), some (.int (nI s)), some (.int y), some (.int (nI p)), some (.int (nI e)), some (.int (came + 0)), some (.int (nI (k + 1))), none] [] _ _
        rw [Int32.add_zero]
        exact nx
      · rw [if_neg q] at nx
        refine zT.step ct_X7_things_ok ?_
        refine zT.step ct_X7_things_ok ?_
        refine zT.step ct_X7_things_ok ?_
        refine zT.step ct_X7_things_ok ?_
        refine zT.step ct_X7_things_ok ?_
        refine zT.step ct_X7_things_ok ?_
        rw [nI_1]
        refine zT.drop 7 ?_
        exact nx
  refine zT.step ct_X7_things_ok ?_
  refine zT.step ct_X7_things_ok ?_
  refine zT.step ct_X7_things_ok ?_
  refine zT.step ct_X7_things_ok ?_
  exact lp e 0 a σ n 0 (by omega) hE hm (Nat.le_refl _) PA.rf PW.rf (Or.inl rfl) hv.symm
