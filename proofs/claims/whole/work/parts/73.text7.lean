/-! the reference's text -/
theorem TX.gen {a a' σ σ' : zSg} {t : Nat} (h17 : a' (17 + 3 * t) = a (17 + 3 * t)) (h18 : a' (18 + 3 * t) = a (18 + 3 * t)) (h52 : σ' 52 t = σ 52 t) (h51 : ∀ i, i < 160 → σ' 51 (160 * t + i) = σ 51 (160 * t + i)) (H : TX a σ t) : TX a' σ' t := by
  obtain ⟨sz, g, hT, hg, h1, h2, h3, h4, h5⟩ := H
  have hc : ∀ i, i < sz → tB σ t i = tB σ' t i := fun i hi => (h51 i (by have := hT.2.2.1; omega)).symm
  have eg : g = pr_E (tB σ' t) sz := by rw [hg, pr_E_c hc]
  obtain ⟨c0, c1, c2, cs⟩ := tx_s_c (g := g) hc
  have cc : tx_c g (tB σ t) sz = tx_c g (tB σ' t) sz := by unfold tx_c; rw [c0, c1, c2]
  rw [cs] at h1
  rw [cc] at h2 h5
  rw [c0] at h3 h4
  rw [c1] at h4
  refine ⟨sz, g, ⟨hT.1, by rw [h52]; exact hT.2.1, hT.2.2.1, fun i hi => ?_⟩, eg, h1, fun j hj => by rw [h17]; exact h2 j hj, by rw [h18]; exact h3, by rw [h18]; exact h4, by rw [h18]; exact h5⟩
  rw [h51 i (by have := hT.2.2.1; omega)]
  exact hT.2.2.2 i hi
def w_tc (f g : Nat → Int32) (b i : Nat) : Nat → Int32 := fun j => if b ≤ j ∧ j < b + i then f (j - b) else g j
theorem w_tc_s (f g : Nat → Int32) (b i : Nat) : upd (w_tc f g b i) (b + i) (f i) = w_tc f g b (i + 1) := by
  funext j
  unfold upd w_tc
  by_cases q : j = b + i
  · subst q
    rw [if_pos rfl, if_pos ⟨by omega, by omega⟩]
    congr 1
    omega
  · rw [if_neg q]
    by_cases w : b ≤ j ∧ j < b + i
    · rw [if_pos w, if_pos ⟨w.1, by omega⟩]
    · rw [if_neg w, if_neg (fun z => w ⟨z.1, by omega⟩)]
theorem u_rd_o {g : PT} {a : zSg} {t sz c : Nat} (h0 : c ≠ 34) (h1 : c ≠ 16 + 3 * t) (h2 : c ≠ 17 + 3 * t) (h3 : c ≠ 18 + 3 * t) : u_rd g a t sz c = a c := by
  unfold u_rd
  rw [zu_n _ _ _ _ _ h0, rm_o _ _ _ _ _ _ h0 h1 h2, pe_o _ _ _ _ _ h1 h3]
theorem u_rd_17 {g : PT} {a : zSg} {t sz j : Nat} (ht : t < 6) (hj : j < (tx_c g (a 35) sz).length) : u_rd g a t sz (17 + 3 * t) j = (tx_c g (a 35) sz).getD j 0 := by
  unfold u_rd
  rw [zu_n _ _ _ _ _ (by omega)]
  unfold rm
  rw [if_neg (by omega), if_neg (by omega), if_pos rfl, if_pos hj]
theorem u_rd_18 {g : PT} {a : zSg} {t sz : Nat} (ht : t < 6) : u_rd g a t sz (18 + 3 * t) = tx_e g (a 35) sz (a (18 + 3 * t)) := by
  unfold u_rd
  rw [zu_n _ _ _ _ _ (by omega), rm_o _ _ _ _ _ _ (by omega) (by omega) (by omega)]
  unfold pe
  rw [zu_n _ _ _ _ _ (by omega), z_row_s]
theorem u_text_o {g : PT} {a : zSg} {m sz : Nat} (hm : m ≤ 6) : (∀ c, c ≠ 1 → c ≠ 34 → (m < 6 → c ≠ 16 + 3 * m ∧ c ≠ 17 + 3 * m ∧ c ≠ 18 + 3 * m) → u_text g a m sz c = a c) ∧ (∀ k, k ≠ 3 → u_text g a m sz 1 k = a 1 k) ∧ (m < 6 → u_text g a m sz 34 0 = 0) := by
  unfold u_text
  by_cases q : m = 6
  · rw [if_pos q]
    exact ⟨fun _ _ _ _ => rfl, fun _ _ => rfl, fun z => absurd z (by omega)⟩
  · rw [if_neg q]
    have z0 : u_rd g a m sz 34 0 = 0 := by unfold u_rd; rw [z_up_s]
    have z1 : u_rd g a m sz 1 = a 1 := u_rd_o (by decide) (by omega) (by omega) (by omega)
    cases (tx_s g (a 35) sz).2 with
    | true =>
      refine ⟨fun c c1 c2 c3 => ?_, fun k _ => congrFun z1 k, fun _ => z0⟩
      have := c3 (by omega)
      exact u_rd_o c2 this.1 this.2.1 this.2.2
    | false =>
      refine ⟨fun c c1 c2 c3 => ?_, fun k hk => ?_, fun _ => ?_⟩
      · have := c3 (by omega)
        show z_up (u_rd g a m sz) 1 3 _ c = _
        rw [zu_n _ _ _ _ _ c1]
        exact u_rd_o c2 this.1 this.2.1 this.2.2
      · show z_up (u_rd g a m sz) 1 3 _ 1 k = _
        rw [zu_k _ _ _ _ _ hk, z1]
      · show z_up (u_rd g a m sz) 1 3 _ 34 0 = _
        rw [zu_n _ _ _ _ _ (by decide)]
        exact z0
def QT (σ σ' : zSg) : Prop := (∀ b, b ≠ 50 → b ≠ 51 → b ≠ 52 → σ' b = σ b) ∧ ∀ k, ((k < 12 ∧ k ≠ 3 ∧ k ≠ 6) ∨ 26 < k) → σ' 50 k = σ 50 k
theorem RE.txt {a A σ σ' : zSg} {n t m m' : Nat} (H : RE a σ n t m) (hA8 : ∀ i, i < 8 → A (8 + i) = a (8 + i)) (hA1 : ∀ k, k ≠ 3 → A 1 k = a 1 k) (hQ : QT σ σ') (hm : m ≤ m') (hm6 : m' ≤ 6) (h3 : σ' 50 3 = nI m') (hT : ∀ t', t' < m' → TX A σ' t') : RE A σ' n t m' := by
  obtain ⟨⟨h1, h2, h3', h4, h5, h6⟩, ⟨h7, h8⟩, h9, h10, h11⟩ := H
  refine ⟨⟨h1, by rw [hQ.2 11 (by omega)]; exact h2, by omega, hm6, h3, by rw [hQ.2 4 (by omega)]; exact h6⟩, ⟨by rw [hQ.2 7 (by omega), hA1 5 (by decide)]; exact h7, by rw [hQ.2 8 (by omega), hA1 6 (by decide)]; exact h8⟩, fun i hi => ?_, fun i hi => by rw [hA8 i (by omega)]; exact h10 i hi, hT⟩
  rw [hA8 i (by omega), hQ.1 54 (by decide) (by decide) (by decide), hQ.1 55 (by decide) (by decide) (by decide)]
  exact h9 i hi
theorem t_text {X : zXs} {d n t m sz : Nat} {a σ : zSg} {τ : Nat → Nat → Int64} {r : Option Nat} (hd : 52 ≤ d) (hE : RE a σ n t m) (hsz : sz ≤ 160) (h6 : σ 50 6 = nI sz) (h53 : ∀ i, i < sz → σ 53 i = a 35 i) (hby : ∀ i, i < sz → ∃ k, k < 256 ∧ a 35 i = nI k) (hm3 : a 1 3 = nI m) : zC X d 0 0 m_X7_text [.ref 50] L0 (mm σ τ r) (fun w L2 μ2 => w = some (.int (v_text (pr_E (a 35) sz) m (a 35) sz)) ∧ L2 = L0 ∧ ∃ σ' τ' m', μ2 = mm σ' τ' r ∧ RE (u_text (pr_E (a 35) sz) a m sz) σ' n t m' ∧ u_text (pr_E (a 35) sz) a m sz 1 3 = nI m' ∧ m ≤ m' ∧ QT σ σ' ∧ (m < 6 → σ' 50 6 = 0) ∧ (m = 6 → σ' = σ)) := by
  have hm6 := hE.1.2.2.2.1
  have hm := hE.1.2.2.2.2.1
  have uo := u_text_o (g := pr_E (a 35) sz) (a := a) (sz := sz) hm6
  obtain ⟨Q, hQ⟩ : ∃ Q : zRQ, Q = (fun w L2 μ2 => w = some (.int (v_text (pr_E (a 35) sz) m (a 35) sz)) ∧ L2 = L0 ∧ ∃ σ' τ' m', μ2 = mm σ' τ' r ∧ RE (u_text (pr_E (a 35) sz) a m sz) σ' n t m' ∧ u_text (pr_E (a 35) sz) a m sz 1 3 = nI m' ∧ m ≤ m' ∧ QT σ σ' ∧ (m < 6 → σ' 50 6 = 0) ∧ (m = 6 → σ' = σ)) := ⟨_, rfl⟩
  rw [← hQ]
  refine zC.of mk_X7_text rfl ?_
  refine zT.step ct_X7_text_ok ?_
  refine zT.step ct_X7_text_ok ?_
  refine And.intro ⟨by decide, _, rfl⟩ ?_
  refine zT.step ct_X7_text_ok ?_
  refine zT.step ct_X7_text_ok ?_
  refine And.intro (fun q => ?_) (fun q => ?_)
  · have q : σ 50 3 = nI 6 := q
    rw [hm] at q
    have q := (nI_eq (by omega) (by decide)).mp q
    refine zT.step ct_X7_text_ok ?_
    refine zT.step ct_X7_text_ok ?_
    rw [hQ]
    have eu : u_text (pr_E (a 35) sz) a m sz = a := if_pos q
    refine And.intro (by unfold v_text; rw [if_pos q]) (And.intro rfl ⟨σ, τ, m, rfl, by rw [eu]; exact hE, by rw [eu]; exact hm3, Nat.le_refl _, ⟨fun _ _ _ _ => rfl, fun _ _ => rfl⟩, fun z => by omega, fun _ => rfl⟩)
  have q : ¬ σ 50 3 = nI 6 := q
  rw [hm] at q
  have q6 : ¬ m = 6 := fun z => q (by rw [z])
  have hlt : m < 6 := by omega
  have lp : ∀ (m' i : Nat), i + m' = sz → zT X d m_X7_text Q 0 0 14 [some (.ref 50), some (.int (nI i))] [] L0 (mm (z_row σ 51 (w_tc (σ 53) (σ 51) (160 * m) i)) τ r) := by
    intro m'
    induction m' with
    | succ m' ih =>
      intro i hi
      have nx := ih (i + 1) (by omega)
      refine zT.step ct_X7_text_ok ?_
      refine zT.step ct_X7_text_ok ?_
      refine zT.step ct_X7_text_ok ?_
      refine And.intro ⟨by decide, _, rfl⟩ ?_
      refine zT.step ct_X7_text_ok ?_
      refine And.intro (fun q => ?_) (fun _ => ?_)
      · have q : z_row σ 51 (w_tc (σ 53) (σ 51) (160 * m) i) 50 6 ≤ nI i := q
        rw [z_row_n _ _ _ _ (by decide), h6] at q
        exact absurd q (nI_ge (show i < sz by omega) (by omega))
      refine zT.step ct_X7_text_ok ?_
      refine zT.step ct_X7_text_ok ?_
      refine And.intro ⟨by decide, _, rfl⟩ ?_
      refine zT.step ct_X7_text_ok ?_
      refine zT.step ct_X7_text_ok ?_
      refine zT.step ct_X7_text_ok ?_
      refine And.intro ⟨by decide, _, rfl⟩ ?_
      refine zT.step ct_X7_text_ok ?_
      refine zT.step ct_X7_text_ok ?_
      refine zT.step ct_X7_text_ok ?_
      refine zT.step ct_X7_text_ok ?_
      refine zT.step ct_X7_text_ok ?_
      refine And.intro ⟨by decide, _, rfl⟩ ?_
      refine zT.step ct_X7_text_ok ?_
      refine zT.step ct_X7_text_ok ?_
      refine Exists.intro i (And.intro ⟨rfl, by decide, 160, rfl, by omega, by decide⟩ ?_)
      refine zT.step ct_X7_text_ok ?_
      refine Exists.intro (160 * m + i) (And.intro ⟨?_, by decide, 960, rfl, by omega, by decide⟩ ?_)
      · show nI 160 * σ 50 3 + nI i = _
        rw [hm, nI_mulN, nI_add]
      refine zT.step ct_X7_text_ok ?_
      refine zT.step ct_X7_text_ok ?_
      rw [nI_1]
      show zT X d m_X7_text _ 0 0 14 _ [] L0 (mm (z_up (z_row σ 51 (w_tc (σ 53) (σ 51) (160 * m) i)) 51 (160 * m + i) (z_row σ 51 (w_tc (σ 53) (σ 51) (160 * m) i) 53 i)) τ r)
      rw [zu_row, z_row_n _ _ _ _ (show (53 : Nat) ≠ 51 by decide), w_tc_s]
      exact nx
    | zero =>
      intro i hi
      have hi : i = sz := by omega
      subst hi
      refine zT.step ct_X7_text_ok ?_
      refine zT.step ct_X7_text_ok ?_
      refine zT.step ct_X7_text_ok ?_
      refine And.intro ⟨by decide, _, rfl⟩ ?_
      refine zT.step ct_X7_text_ok ?_
      refine And.intro (fun _ => ?_) (fun q => ?_)
      rotate_left
      · have q : ¬ z_row σ 51 (w_tc (σ 53) (σ 51) (160 * m) i) 50 6 ≤ nI i := q
        rw [z_row_n _ _ _ _ (by decide), h6] at q
        exact absurd (Int32.le_refl (nI i)) q
      refine zT.step ct_X7_text_ok ?_
      refine zT.step ct_X7_text_ok ?_
      refine And.intro ⟨by decide, _, rfl⟩ ?_
      refine zT.step ct_X7_text_ok ?_
      refine zT.step ct_X7_text_ok ?_
      refine And.intro ⟨by decide, _, rfl⟩ ?_
      refine zT.step ct_X7_text_ok ?_
      refine zT.step ct_X7_text_ok ?_
      refine And.intro ⟨by decide, _, rfl⟩ ?_
      refine zT.step ct_X7_text_ok ?_
      refine Exists.intro m (And.intro ⟨hm, by decide, 6, rfl, hlt, by decide⟩ ?_)
      refine zT.step ct_X7_text_ok ?_
      refine zT.step ct_X7_text_ok ?_
      refine zT.step ct_X7_text_ok ?_
      refine And.intro ⟨by decide, _, rfl⟩ ?_
      refine zT.step ct_X7_text_ok ?_
      refine zT.step ct_X7_text_ok ?_
      refine zT.step ct_X7_text_ok ?_
      refine And.intro ⟨by decide, _, rfl⟩ ?_
      refine zT.step ct_X7_text_ok ?_
      obtain ⟨σ1, hσ1⟩ : ∃ σ1, σ1 = z_up (z_up (z_row σ 51 (w_tc (σ 53) (σ 51) (160 * m) i)) 52 m (σ 50 6)) 50 6 0 := ⟨_, rfl⟩
      show zT X d m_X7_text _ 0 0 73 _ [.int 0, .int (σ 50 3), .ref 50] L0 (mm (z_up (z_up (z_row σ 51 (w_tc (σ 53) (σ 51) (160 * m) i)) 52 m (σ 50 6)) 50 6 0) τ r)
      rw [← hσ1, hm]
      have s51 : σ1 51 = w_tc (σ 53) (σ 51) (160 * m) i := by rw [hσ1, zu_n _ _ _ _ _ (by decide), zu_n _ _ _ _ _ (by decide), z_row_s]
      have s52 : σ1 52 m = nI i := by rw [hσ1, zu_n _ _ _ _ _ (by decide), z_up_s]; exact h6
      have o52 : ∀ t', t' ≠ m → σ1 52 t' = σ 52 t' := fun t' h => by rw [hσ1, zu_n _ _ _ _ _ (by decide), zu_k _ _ _ _ _ h, z_row_n _ _ _ _ (by decide)]
      have s6 : σ1 50 6 = 0 := by rw [hσ1, z_up_s]
      have q1 : QT σ σ1 := by
        rw [hσ1]
        refine ⟨fun b b0 b1 b2 => ?_, fun k hk => ?_⟩
        · rw [zu_n _ _ _ _ _ b0, zu_n _ _ _ _ _ b2, z_row_n _ _ _ _ b1]
        · rw [zu_k _ _ _ _ _ (by omega), zu_n _ _ _ _ _ (by decide), z_row_n _ _ _ _ (by decide)]
      have s3 : σ1 50 3 = nI m := by rw [hσ1, zu_k _ _ _ _ _ (by decide), zu_n _ _ _ _ _ (by decide), z_row_n _ _ _ _ (by decide)]; exact hm
      have b53 : ∀ j, j < i → tB σ1 m j = a 35 j := fun j hj => by
        show σ1 51 (160 * m + j) = _
        rw [s51]
        unfold w_tc
        rw [if_pos ⟨by omega, by omega⟩, show 160 * m + j - 160 * m = j by omega]
        exact h53 j hj
      have o51 : ∀ t', t' < m → ∀ j, j < 160 → σ1 51 (160 * t' + j) = σ 51 (160 * t' + j) := fun t' ht j hj => by
        rw [s51]
        unfold w_tc
        rw [if_neg (by omega)]
      have hT : RT σ1 m i := ⟨hlt, s52, hsz, fun j hj => by
        obtain ⟨k, hk, e⟩ := hby j hj
        exact ⟨k, hk, (b53 j hj).trans e⟩⟩
      have eg : pr_E (a 35) i = pr_E (tB σ1 m) i := pr_E_c (fun j hj => (b53 j hj).symm)
      obtain ⟨c0, c1, c2, cs⟩ := tx_s_c (f := a 35) (f' := tB σ1 m) (sz := i) (g := pr_E (a 35) i) (fun j hj => (b53 j hj).symm)
      have cb : lx_b (a 35) i = lx_b (tB σ1 m) i := lx_b_c (fun j hj => (b53 j hj).symm)
      have rd := t_read (X := X) (d := d - 1) (τ := τ) (r := r) (w := 0) (by omega) rfl (EG.E (X := X) (f := tB σ1 m) (sz := i)) hT (by decide)
      rw [← eg, ← cs, ← cb] at rd
      have hv : v_text (pr_E (a 35) i) m (a 35) i = bif (tx_s (pr_E (a 35) i) (a 35) i).2 then -100 - nI (lx_b (a 35) i (tx_s (pr_E (a 35) i) (a 35) i).1) else nI m := if_neg q6
      have hu : u_text (pr_E (a 35) i) a m i = bif (tx_s (pr_E (a 35) i) (a 35) i).2 then u_rd (pr_E (a 35) i) a m i else z_up (u_rd (pr_E (a 35) i) a m i) 1 3 (nI (m + 1)) := if_neg q6
      rw [hv] at hQ
      generalize hU : u_text (pr_E (a 35) i) a m i = U at hQ uo hu
      have A8 : ∀ j, j < 8 → U (8 + j) = a (8 + j) := fun j hj => uo.1 _ (by omega) (by omega) (fun _ => by omega)
      have old : ∀ (σ' : zSg), σ' 51 = σ1 51 → σ' 52 = σ1 52 → ∀ t', t' < m → TX U σ' t' := fun σ' e1 e2 t' ht => (hE.2.2.2.2 t' ht).gen (uo.1 _ (by omega) (by omega) (fun _ => by omega)) (uo.1 _ (by omega) (by omega) (fun _ => by omega)) (by rw [e2]; exact o52 t' (by omega)) (fun j hj => by rw [e1]; exact o51 t' ht j hj)
      refine zT.step ct_X7_text_ok ?_
      refine And.intro ⟨by omega, by decide, _, rfl⟩ (zC.use rd (fun w L2 μ2 hw => ?_))
      obtain ⟨rfl, σ2, τ2, v, rfl, rfl, S2, h25, h26, -⟩ := hw
      have q2 : QT σ σ2 := ⟨fun b b0 b1 b2 => (S2.1 b b0).trans (q1.1 b b0 b1 b2), fun k hk => (S2.2 k (by omega)).trans (q1.2 k hk)⟩
      have t3 : σ2 50 3 = nI m := (S2.2 3 (by omega)).trans s3
      have t6 : σ2 50 6 = 0 := (S2.2 6 (by omega)).trans s6
      cases hb : (tx_s (pr_E (a 35) i) (a 35) i).2 with
      | true =>
        rw [hb] at h25 hu hQ
        have h26 := h26 hb
        have hu : U = u_rd (pr_E (a 35) i) a m i := hu
        refine zT.step ct_X7_text_ok ?_
        refine zT.step ct_X7_text_ok ?_
        refine zT.step ct_X7_text_ok ?_
        refine And.intro ⟨by decide, _, rfl⟩ ?_
        show zT X d m_X7_text _ 0 0 81 _ [.int (σ2 50 25)] _ _
        rw [h25]
        refine zT.step ct_X7_text_ok ?_
        refine And.intro (fun z => absurd z (by decide)) (fun _ => ?_)
        refine zT.step ct_X7_text_ok ?_
        refine zT.step ct_X7_text_ok ?_
        refine zT.step ct_X7_text_ok ?_
        refine And.intro ⟨by decide, _, rfl⟩ ?_
        refine zT.step ct_X7_text_ok ?_
        refine zT.step ct_X7_text_ok ?_
        rw [hQ]
        refine And.intro ?_ (And.intro rfl ⟨σ2, τ2, m, rfl, hE.txt A8 uo.2.1 q2 (Nat.le_refl _) hm6 t3 (old σ2 (S2.1 51 (by decide)) (S2.1 52 (by decide))), ?_, Nat.le_refl _, q2, fun _ => t6, fun z => absurd z q6⟩)
        · show some (Value.int (-100 - σ2 50 26)) = _
          rw [h26]
          rfl
        · rw [hu, u_rd_o (by decide) (by omega) (by omega) (by omega)]; exact hm3
      | false =>
        rw [hb] at h25 hu hQ
        have hu : U = z_up (u_rd (pr_E (a 35) i) a m i) 1 3 (nI (m + 1)) := hu
        refine zT.step ct_X7_text_ok ?_
        refine zT.step ct_X7_text_ok ?_
        refine zT.step ct_X7_text_ok ?_
        refine And.intro ⟨by decide, _, rfl⟩ ?_
        show zT X d m_X7_text _ 0 0 81 _ [.int (σ2 50 25)] _ _
        rw [h25]
        refine zT.step ct_X7_text_ok ?_
        refine And.intro (fun _ => ?_) (fun z => absurd rfl z)
        refine zT.step ct_X7_text_ok ?_
        refine zT.step ct_X7_text_ok ?_
        refine zT.step ct_X7_text_ok ?_
        refine And.intro ⟨by decide, _, rfl⟩ ?_
        refine zT.step ct_X7_text_ok ?_
        refine zT.step ct_X7_text_ok ?_
        refine zT.step ct_X7_text_ok ?_
        refine And.intro ⟨by decide, _, rfl⟩ ?_
        refine zT.step ct_X7_text_ok ?_
        refine zT.step ct_X7_text_ok ?_
        refine And.intro ⟨by decide, _, rfl⟩ ?_
        refine zT.step ct_X7_text_ok ?_
        refine zT.step ct_X7_text_ok ?_
        refine zT.step ct_X7_text_ok ?_
        rw [hQ]
        have q3 : QT σ (z_up σ2 50 3 (nI (m + 1))) := ⟨fun b b0 b1 b2 => by rw [zu_n _ _ _ _ _ b0]; exact q2.1 b b0 b1 b2, fun k hk => by rw [zu_k _ _ _ _ _ (by omega)]; exact q2.2 k hk⟩
        have e51 : z_up σ2 50 3 (nI (m + 1)) 51 = σ1 51 := by rw [zu_n _ _ _ _ _ (by decide)]; exact S2.1 51 (by decide)
        have e52 : z_up σ2 50 3 (nI (m + 1)) 52 = σ1 52 := by rw [zu_n _ _ _ _ _ (by decide)]; exact S2.1 52 (by decide)
        have new : TX U (z_up σ2 50 3 (nI (m + 1))) m := by
          have eB : tB (z_up σ2 50 3 (nI (m + 1))) m = tB σ1 m := by funext j; show z_up σ2 50 3 _ 51 _ = σ1 51 _; rw [e51]
          refine ⟨i, pr_E (a 35) i, ⟨hlt, by rw [e52]; exact s52, hsz, fun j hj => by rw [e51]; exact hT.2.2.2 j hj⟩, by rw [eB]; exact eg, ?_, ?_, ?_, ?_, ?_⟩
          · rw [eB, ← cs]; exact hb
          · intro j hj
            have cc : tx_c (pr_E (a 35) i) (tB σ1 m) i = tx_c (pr_E (a 35) i) (a 35) i := by unfold tx_c; rw [c0, c1, c2]
            rw [eB, cc] at hj ⊢
            rw [hu, zu_n _ _ _ _ _ (by omega)]
            exact u_rd_17 hlt hj
          · rw [eB, ← c0, hu, zu_n _ _ _ _ _ (by omega), u_rd_18 hlt]; rfl
          · rw [eB, ← c0, ← c1, hu, zu_n _ _ _ _ _ (by omega), u_rd_18 hlt]; rfl
          · have cc : tx_c (pr_E (a 35) i) (tB σ1 m) i = tx_c (pr_E (a 35) i) (a 35) i := by unfold tx_c; rw [c0, c1, c2]
            rw [eB, cc, hu, zu_n _ _ _ _ _ (by omega), u_rd_18 hlt]; rfl
        have ex : σ2 50 3 + 1 = nI (m + 1) := by rw [t3, nI_1]
        refine And.intro ?_ (And.intro rfl ⟨z_up σ2 50 3 (nI (m + 1)), τ2, m + 1, ?_, hE.txt A8 uo.2.1 q3 (Nat.le_succ _) (by omega) (z_up_s _ _ _ _) (fun t' ht => ?_), ?_, Nat.le_succ _, q3, fun _ => by rw [zu_k _ _ _ _ _ (by decide)]; exact t6, fun z => absurd z q6⟩)
        · show some (Value.int (z_up σ2 50 3 (σ2 50 3 + 1) 50 3 - 1)) = _
          rw [z_up_s, ex, nI_pred]
          rfl
        · show mm (z_up σ2 50 3 (σ2 50 3 + 1)) τ2 r = _
          rw [ex]
        · by_cases w : t' = m
          · rw [w]; exact new
          · exact old _ e51 e52 t' (by omega)
        · rw [hu, z_up_s]
  have e0 : z_row σ 51 (w_tc (σ 53) (σ 51) (160 * m) 0) = σ := by
    have : w_tc (σ 53) (σ 51) (160 * m) 0 = σ 51 := by funext j; exact if_neg (by omega)
    rw [this, z_row_id]
  have l0 := lp sz 0 (by omega)
  rw [e0] at l0
  refine zT.step ct_X7_text_ok ?_
  refine zT.step ct_X7_text_ok ?_
  exact l0
