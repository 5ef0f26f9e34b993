/-! the reference's part, read -/
theorem bd_one {f : Nat → Int32} {sz : Nat} {D : Option (Nat → PT)} {s : PS} (h : s.2 = true) : (pr_one f sz D s).1 = s := by
  have e : ps_t f sz s = -31 := ps_tt h
  unfold pr_one
  rw [e, if_pos (by decide), if_neg (by decide)]
  cases D with
  | none => exact ps_fb h
  | some D => dsimp only; rw [if_neg (by decide)]; exact ps_fb h
theorem bd_lv {f : Nat → Int32} {sz m : Nat} {l : Int32} {g : PT} (hl : 0 ≤ l) (hg : ∀ s : PS, s.2 = true → (g s).1 = s) {s : PS} (h : s.2 = true) : (pr_lv f sz m l g s).1 = s := by
  unfold pr_lv
  dsimp only
  rw [hg s h, lp_no m s (fun q => (pr_lev_t q hl).1 (ps_tt h))]
theorem bd_E {f : Nat → Int32} {sz : Nat} {D : Option (Nat → PT)} {s : PS} (h : s.2 = true) : (pr_L f sz D 0 s).1 = s := by
  have h4 : ∀ s : PS, s.2 = true → (pr_4 f sz D s).1 = s := fun s h => bd_lv (by decide) (fun s h => bd_one h) h
  have h3 : ∀ s : PS, s.2 = true → (pr_3 f sz D s).1 = s := fun s h => bd_lv (by decide) h4 h
  have h2 : ∀ s : PS, s.2 = true → (pr_2 f sz D s).1 = s := fun s h => by
    unfold pr_2
    rw [if_neg (by rw [ps_tt h]; decide)]
    exact bd_lv (by decide) h3 h
  have h1 : ∀ s : PS, s.2 = true → (pr_1 f sz D s).1 = s := fun s h => bd_lv (by decide) h2 h
  exact bd_lv (by decide) h1 h
theorem bd_x {f : Nat → Int32} {sz : Nat} {due : Int32} {s : PS} (hd : due ≠ -31) (h : s.2 = true) : ps_x f sz due s = s := by
  unfold ps_x
  rw [if_neg (by rw [ps_tt h]; exact fun q => hd q.symm), ps_fb h]
theorem bd_part {g : PT} {f : Nat → Int32} {sz : Nat} {key : Int32} (hg : ∀ s : PS, s.2 = true → (g s).1 = s) (hk : key ≠ -31) {s : PS} (h : s.2 = true) : (pr_part g f sz key s).1 = s := by
  unfold pr_part
  dsimp only
  rw [bd_x hk h, hg s h, bd_x (by decide) h]
/-- g is what either0 reads -/
def EG (X : zXs) (f : Nat → Int32) (sz : Nat) (g : PT) : Prop := PK sz g ∧ (∀ s : PS, s.2 = true → (g s).1 = s) ∧ ∀ (d : Nat) (σ : zSg) (τ : Nat → Nat → Int64) (r : Option Nat) (t : Nat) (s : PS), 48 ≤ d → s.2 = false → RP σ τ t sz s 0 → tB σ t = f → zC X d 0 0 m_X7_either0 [.ref 50] L0 (mm σ τ r) (zV σ r t sz 0 (g s))
theorem EG.E {X : zXs} {f : Nat → Int32} {sz : Nat} : EG X f sz (pr_E f sz) := by
  refine ⟨PK.E, fun s h => bd_E h, fun d σ τ r t s hd h2 hR hf => ?_⟩
  have := t_either0 (X := X) d σ τ r t sz s hd h2 hR
  rw [hf] at this
  exact this
theorem t_part {X : zXs} {d t sz : Nat} {σ : zSg} {τ : Nat → Nat → Int64} {r : Option Nat} {s : PS} {f : Nat → Int32} {g : PT} {key : Int32} {i : Nat} (hd : 49 ≤ d) (hf : tB σ t = f) (hg : EG X f sz g) (hi : i < 12) (hk : key = z_wcd.getD i 0) (hR : RP σ τ t sz s 0) (hs2 : s.2 = false) : zC X d 0 0 m_X7_part [.ref 50, .int (f_b (decide (ps_t f sz s = key)))] L0 (mm σ τ r) (zV σ r t sz 0 (pr_part g f sz key s)) := by
  have hn := z_wcd_n i hi
  rw [← hk] at hn
  -- from 35 on
  have semi : ∀ (σ2 : zSg) (τ2 : Nat → Nat → Int64) (b v : Int32) (p : PS × List Int32), SP σ σ2 → RP σ2 τ2 t sz p.1 0 → (p.1.2 = false → ∀ st, exL (ev σ) p.2 st = v :: st) → zT X d m_X7_part (zV σ r t sz 0 (ps_x f sz (-22) p.1, p.2)) 0 0 35 [some (.ref 50), some (.int b), some (.int v)] [] L0 (mm σ2 τ2 r) := by
    intro σ2 τ2 b v p hS hR2 hx
    have sg : zF X (d - 1) m_X7_isSign [.ref 50, .int 59] L0 (mm σ2 τ2 r) (some (.int (f_b (decide (ps_t f sz p.1 = -22))))) (mm σ2 τ2 r) := by have := t_isSign (X := X) (d := d - 1) (r := r) (q := (59, -22)) (by decide) hR2; rw [hS.bytes, hf] at this; exact this
    refine zT.step ct_X7_part_ok ?_
    refine zT.step ct_X7_part_ok ?_
    refine zT.step ct_X7_part_ok ?_
    refine And.intro ⟨by omega, by decide, _, rfl⟩ (zF.use sg ?_)
    refine zT.step ct_X7_part_ok ?_
    refine And.intro (fun h => ?_) (fun h => ?_)
    · have h := of_decide_eq_false (fb0 h)
      have e : ps_x f sz (-22) p.1 = ps_f p.1 := by unfold ps_x; rw [if_neg h]
      rw [e]
      refine zT.step ct_X7_part_ok ?_
      refine zT.step ct_X7_part_ok ?_
      refine And.intro ⟨by omega, by decide, _, rfl⟩ (zC.use (t_fail hR2) (fun w L2 μ2 hw => ?_))
      obtain ⟨rfl, rfl, σ3, rfl, h3, h4⟩ := hw
      have b25 : σ3 50 25 = 1 := by rw [h4.2.2.2.1]; rfl
      refine zT.step ct_X7_part_ok ?_
      refine zT.step ct_X7_part_ok ?_
      refine And.intro ⟨by decide, _, rfl⟩ ?_
      refine zT.step ct_X7_part_ok ?_
      refine And.intro (fun z => ?_) (fun _ => ?_)
      · have z : σ3 50 25 = 0 := z
        rw [b25] at z
        exact absurd z (by decide)
      refine zT.step ct_X7_part_ok ?_
      refine zT.step ct_X7_part_ok ?_
      exact And.intro rfl ⟨σ3, τ2, v, rfl, rfl, hS.trans h3, h4, fun h => by cases h⟩
    · have h := of_decide_eq_true (fb1 h)
      have hg2 : p.1.2 = false := ps_ok (by rw [h]; decide)
      have e : ps_x f sz (-22) p.1 = ps_a f sz p.1 := by unfold ps_x; rw [if_pos h]
      rw [e]
      have kk := (tok_sg (f := f) (sz := sz) (p := p.1.1) (q := (59, -22)) (by decide)).mp (by rw [← ps_tf hg2]; exact h)
      have nx := t_nextP (X := X) (d := d - 1) (r := r) (by omega) hR2 hg2 (by rw [hS.bytes, hf]; exact Or.inr (Or.inr kk.1))
      rw [hS.bytes, hf] at nx
      have b25 : σ2 50 25 = 0 := by rw [hR2.2.2.2.1, hg2]; rfl
      refine zT.step ct_X7_part_ok ?_
      refine zT.step ct_X7_part_ok ?_
      refine And.intro ⟨by decide, _, rfl⟩ ?_
      refine zT.step ct_X7_part_ok ?_
      refine And.intro (fun _ => ?_) (fun z => absurd b25 z)
      refine zT.step ct_X7_part_ok ?_
      refine zT.step ct_X7_part_ok ?_
      refine And.intro ⟨by omega, by decide, _, rfl⟩ (zC.use nx (fun w L2 μ2 hw => ?_))
      obtain ⟨rfl, rfl, σ3, τ3, rfl, h3, h4⟩ := hw
      refine zT.step ct_X7_part_ok ?_
      refine zT.step ct_X7_part_ok ?_
      exact And.intro rfl ⟨σ3, τ3, v, rfl, rfl, hS.trans h3, h4, fun _ st => hx hg2 st⟩
  unfold pr_part
  refine zC.of mk_X7_part rfl ?_
  by_cases h : ps_t f sz s = key
  · have e : ps_x f sz key s = ps_a f sz s := by unfold ps_x; rw [if_pos h]
    have hk1 : lx_t f sz s.1 = z_wcd.getD i 0 := by rw [← ps_tf hs2, h, hk]
    have nx := t_nextP (X := X) (d := d - 1) (r := r) (by omega) hR hs2 (by rw [hf]; exact Or.inl ((tok_wd hi).mp hk1).1)
    rw [hf] at nx
    have b25 : σ 50 25 = 0 := by rw [hR.2.2.2.1, hs2]; rfl
    rw [decide_eq_true h, e]
    refine zT.step ct_X7_part_ok ?_
    refine zT.step ct_X7_part_ok ?_
    refine And.intro (fun z => absurd z (by decide)) (fun _ => ?_)
    refine zT.step ct_X7_part_ok ?_
    refine zT.step ct_X7_part_ok ?_
    refine And.intro ⟨by decide, _, rfl⟩ ?_
    refine zT.step ct_X7_part_ok ?_
    refine And.intro (fun _ => ?_) (fun z => absurd b25 z)
    refine zT.step ct_X7_part_ok ?_
    refine zT.step ct_X7_part_ok ?_
    refine And.intro ⟨by omega, by decide, _, rfl⟩ (zC.use nx (fun w L2 μ2 hw => ?_))
    obtain ⟨rfl, rfl, σ1, τ1, rfl, h3, h4⟩ := hw
    have b25 : σ1 50 25 = 0 := by rw [h4.2.2.2.1]; show f_b s.2 = 0; rw [hs2]; rfl
    have ce := hg.2.2 (d - 1) σ1 τ1 r t (ps_a f sz s) (by omega) hs2 h4 (by rw [h3.bytes]; exact hf)
    generalize g (ps_a f sz s) = pp at ce ⊢
    refine zT.step ct_X7_part_ok ?_
    refine zT.step ct_X7_part_ok ?_
    refine And.intro ⟨by decide, _, rfl⟩ ?_
    refine zT.step ct_X7_part_ok ?_
    refine And.intro (fun _ => ?_) (fun z => absurd b25 z)
    refine zT.step ct_X7_part_ok ?_
    refine zT.step ct_X7_part_ok ?_
    refine And.intro ⟨by omega, by decide, _, rfl⟩ (zC.use ce (fun w L2 μ2 hw => ?_))
    obtain ⟨rfl, σ2, τ2, v, rfl, rfl, h5, h6, h7⟩ := hw
    refine zT.step ct_X7_part_ok ?_
    exact semi σ2 τ2 _ v pp (h3.trans h5) h6 (fun hb st => by rw [← ev_sp h3]; exact h7 hb st)
  · have e : ps_x f sz key s = ps_f s := by unfold ps_x; rw [if_neg h]
    rw [decide_eq_false h, e]
    have e2 : (g (ps_f s)).1 = ps_f s := hg.2.1 (ps_f s) rfl
    refine zT.step ct_X7_part_ok ?_
    refine zT.step ct_X7_part_ok ?_
    refine And.intro (fun _ => ?_) (fun z => absurd rfl z)
    refine zT.step ct_X7_part_ok ?_
    refine zT.step ct_X7_part_ok ?_
    refine And.intro ⟨by omega, by decide, _, rfl⟩ (zC.use (t_fail hR) (fun w L2 μ2 hw => ?_))
    obtain ⟨rfl, rfl, σ1, rfl, h3, h4⟩ := hw
    have b25 : σ1 50 25 = 1 := by rw [h4.2.2.2.1]; rfl
    refine zT.step ct_X7_part_ok ?_
    refine zT.step ct_X7_part_ok ?_
    refine And.intro ⟨by decide, _, rfl⟩ ?_
    refine zT.step ct_X7_part_ok ?_
    refine And.intro (fun z => ?_) (fun _ => ?_)
    · have z : σ1 50 25 = 0 := z
      rw [b25] at z
      exact absurd z (by decide)
    refine zT.step ct_X7_part_ok ?_
    refine zT.step ct_X7_part_ok ?_
    refine And.intro ⟨by decide, _, rfl⟩ ?_
    refine zT.step ct_X7_part_ok ?_
    refine And.intro (fun z => ?_) (fun _ => ?_)
    · have z : σ1 50 25 = 0 := z
      rw [b25] at z
      exact absurd z (by decide)
    refine zT.step ct_X7_part_ok ?_
    refine zT.step ct_X7_part_ok ?_
    refine zT.step ct_X7_part_ok ?_
    refine semi σ1 τ _ 0 (g (ps_f s)) h3 (by rw [e2]; exact h4) (fun hb => ?_)
    rw [e2] at hb
    cases hb
/-- the same but for the reference's slots from lo to 26 -/
def ST (lo : Nat) (σ σ' : zSg) : Prop := (∀ b, b ≠ 50 → σ' b = σ b) ∧ ∀ k, (k < lo ∨ 26 < k) → σ' 50 k = σ 50 k
theorem ST.rf {lo : Nat} {σ : zSg} : ST lo σ σ := ⟨fun _ _ => rfl, fun _ _ => rfl⟩
theorem ST.trans {lo : Nat} {a b c : zSg} (h1 : ST lo a b) (h2 : ST lo b c) : ST lo a c := ⟨fun x hx => (h2.1 x hx).trans (h1.1 x hx), fun k hk => (h2.2 k hk).trans (h1.2 k hk)⟩
theorem ST.up {lo : Nat} {σ : zSg} {k : Nat} {v : Int32} (h1 : lo ≤ k) (h2 : k ≤ 26) : ST lo σ (z_up σ 50 k v) := ⟨fun b hb => zu_n _ _ _ _ _ hb, fun j hj => zu_k _ _ _ _ _ (by omega)⟩
theorem z_pk_f {k : Nat} (h : k < 20 ∨ 26 < k) : z_pk k = false := by
  unfold z_pk
  rcases h with h | h
  · rw [show Nat.ble 20 k = false from by
      cases e : Nat.ble 20 k with
      | false => rfl
      | true => have := Nat.le_of_ble_eq_true e; omega]
    rfl
  · rw [show Nat.ble k 26 = false from by
      cases e : Nat.ble k 26 with
      | false => rfl
      | true => have := Nat.le_of_ble_eq_true e; omega, Bool.and_false]
theorem SP.st {lo : Nat} {σ σ' : zSg} (hl : lo ≤ 20) (h : SP σ σ') : ST lo σ σ' := ⟨h.1, fun k hk => h.2 k (z_pk_f (by omega))⟩
theorem SN.st {lo : Nat} {σ σ' : zSg} (hl : lo ≤ 20) (h : SN σ σ') : ST lo σ σ' := h.sp.st hl
theorem ST.wk {lo lo' : Nat} {σ σ' : zSg} (hl : lo' ≤ lo) (h : ST lo σ σ') : ST lo' σ σ' := ⟨h.1, fun k hk => h.2 k (by omega)⟩
theorem ST.bytes {lo : Nat} {σ σ' : zSg} (h : ST lo σ σ') (t : Nat) : tB σ' t = tB σ t := by
  funext i
  show σ' 51 _ = σ 51 _
  rw [h.1 51 (by decide)]
theorem ST.evs {σ σ' : zSg} (h : ST 18 σ σ') (c st : List Int32) : exL (ev σ') c st = exL (ev σ) c st := exL_congr (fun j hj => h.2 _ (by omega)) c st
def tx_w (g : PT) (f : Nat → Int32) (sz : Nat) (w : Nat) : List Int32 := if w = 0 then (tx_0 g f sz).2 else if w = 1 then (tx_1 g f sz).2 else (tx_2 g f sz).2
/-- text t is stored: its size, its bytes -/
def RT (σ : zSg) (t sz : Nat) : Prop := t < 6 ∧ σ 52 t = nI sz ∧ sz ≤ 160 ∧ ∀ i, i < sz → ∃ k, k < 256 ∧ σ 51 (160 * t + i) = nI k
theorem t_read {X : zXs} {d t sz w : Nat} {σ : zSg} {τ : Nat → Nat → Int64} {r : Option Nat} {f : Nat → Int32} {g : PT} (hd : 50 ≤ d) (hf : tB σ t = f) (hg : EG X f sz g) (hT : RT σ t sz) (hw3 : w < 3) : zC X d 0 0 m_X7_read [.ref 50, .int (nI t), .int (nI w)] L0 (mm σ τ r) (fun x L2 μ2 => L2 = L0 ∧ ∃ σ' τ' v, x = some (.int v) ∧ μ2 = mm σ' τ' r ∧ ST 18 σ σ' ∧ σ' 50 25 = f_b (tx_s g f sz).2 ∧ ((tx_s g f sz).2 = true → σ' 50 26 = nI (lx_b f sz (tx_s g f sz).1)) ∧ ((tx_s g f sz).2 = false → ∀ st, exL (ev σ) (tx_w g f sz w) st = v :: st)) := by
  obtain ⟨ht6, h52, hsz, hby⟩ := hT
  obtain ⟨Q, hQ⟩ : ∃ Q : zRQ, Q = (fun x L2 μ2 => L2 = L0 ∧ ∃ σ' τ' v, x = some (.int v) ∧ μ2 = mm σ' τ' r ∧ ST 18 σ σ' ∧ σ' 50 25 = f_b (tx_s g f sz).2 ∧ ((tx_s g f sz).2 = true → σ' 50 26 = nI (lx_b f sz (tx_s g f sz).1)) ∧ ((tx_s g f sz).2 = false → ∀ st, exL (ev σ) (tx_w g f sz w) st = v :: st)) := ⟨_, rfl⟩
  rw [← hQ]
  obtain ⟨z0, hz0⟩ : ∃ z, z = tx_0 g f sz := ⟨_, rfl⟩
  obtain ⟨z1, hz1⟩ : ∃ z, z = tx_1 g f sz := ⟨_, rfl⟩
  obtain ⟨z2, hz2⟩ : ∃ z, z = tx_2 g f sz := ⟨_, rfl⟩
  have hzs : tx_s g f sz = ps_x f sz (-30) z2.1 := by rw [hz2]; rfl
  have hzw : tx_w g f sz w = if w = 0 then z0.2 else if w = 1 then z1.2 else z2.2 := by rw [hz0, hz1, hz2]; rfl
  have p0 : z0 = pr_part g f sz (-23) (0, false) := hz0
  have p1 : z1 = pr_part g f sz (-24) z0.1 := by rw [hz1, hz0]; rfl
  have p2 : z2 = pr_part g f sz (-25) z1.1 := by rw [hz2, hz1]; rfl
  rw [hzs, hzw] at hQ
  clear hz0 hz1 hz2 hzs hzw
  have y0 := PK.part hg.1 p0 (Nat.zero_le _)
  have y1 := PK.part hg.1 p1 y0.2
  have y2 := PK.part hg.1 p2 y1.2
  have bad1 : z0.1.2 = true → z1.1 = z0.1 := fun h => by rw [p1]; exact bd_part hg.2.1 (by decide) h
  have bad2 : z1.1.2 = true → z2.1 = z1.1 := fun h => by rw [p2]; exact bd_part hg.2.1 (by decide) h
  -- the end, from 145 on
  have fin : ∀ (σ1 : zSg) (τ1 : Nat → Nat → Int64) (v0 v1 v2 : Int32), ST 18 σ σ1 → σ1 50 25 = f_b (ps_x f sz (-30) z2.1).2 → ((ps_x f sz (-30) z2.1).2 = true → σ1 50 26 = nI (lx_b f sz (ps_x f sz (-30) z2.1).1)) → (z0.1.2 = false → ∀ st, exL (ev σ) z0.2 st = v0 :: st) → (z1.1.2 = false → ∀ st, exL (ev σ) z1.2 st = v1 :: st) → (z2.1.2 = false → ∀ st, exL (ev σ) z2.2 st = v2 :: st) → zT X d m_X7_read Q 0 0 145 [some (.ref 50), some (.int (nI t)), some (.int (nI w)), some (.int v0), some (.int v1), some (.int v2)] [] L0 (mm σ1 τ1 r) := by
    intro σ1 τ1 v0 v1 v2 hS h25 h26 k0 k1 k2
    have g2 : (ps_x f sz (-30) z2.1).2 = false → z2.1.2 = false := by
      intro h
      cases e : z2.1.2 with
      | false => rfl
      | true => rw [bd_x (by decide) e, e] at h; cases h
    have g1 : z2.1.2 = false → z1.1.2 = false := by
      intro h
      cases e : z1.1.2 with
      | false => rfl
      | true => rw [bad2 e, e] at h; cases h
    have g0 : z1.1.2 = false → z0.1.2 = false := by
      intro h
      cases e : z0.1.2 with
      | false => rfl
      | true => rw [bad1 e, e] at h; cases h
    rw [hQ]
    match w, hw3 with
    | 0, _ =>
      refine zT.step ct_X7_read_ok ?_
      refine zT.step ct_X7_read_ok ?_
      refine And.intro (fun _ => ?_) (fun h => absurd rfl h)
      refine zT.step ct_X7_read_ok ?_
      refine zT.step ct_X7_read_ok ?_
      refine zT.step ct_X7_read_ok ?_
      exact And.intro rfl ⟨σ1, τ1, v0, rfl, rfl, hS, h25, h26, fun hb => k0 (g0 (g1 (g2 hb)))⟩
    | 1, _ =>
      refine zT.step ct_X7_read_ok ?_
      refine zT.step ct_X7_read_ok ?_
      refine And.intro (fun h => absurd h (by decide)) (fun _ => ?_)
      refine zT.step ct_X7_read_ok ?_
      refine zT.step ct_X7_read_ok ?_
      refine zT.step ct_X7_read_ok ?_
      refine And.intro (fun _ => ?_) (fun h => absurd rfl h)
      refine zT.step ct_X7_read_ok ?_
      refine zT.step ct_X7_read_ok ?_
      refine zT.step ct_X7_read_ok ?_
      exact And.intro rfl ⟨σ1, τ1, v1, rfl, rfl, hS, h25, h26, fun hb => k1 (g1 (g2 hb))⟩
    | 2, _ =>
      refine zT.step ct_X7_read_ok ?_
      refine zT.step ct_X7_read_ok ?_
      refine And.intro (fun h => absurd h (by decide)) (fun _ => ?_)
      refine zT.step ct_X7_read_ok ?_
      refine zT.step ct_X7_read_ok ?_
      refine zT.step ct_X7_read_ok ?_
      refine And.intro (fun h => absurd h (by decide)) (fun _ => ?_)
      refine zT.step ct_X7_read_ok ?_
      refine zT.step ct_X7_read_ok ?_
      exact And.intro rfl ⟨σ1, τ1, v2, rfl, rfl, hS, h25, h26, fun hb => k2 (g2 hb)⟩
  -- from 127 on
  have last : ∀ (σ1 : zSg) (τ1 : Nat → Nat → Int64) (v0 v1 v2 : Int32), ST 18 σ σ1 → RP σ1 τ1 t sz z2.1 0 → (z0.1.2 = false → ∀ st, exL (ev σ) z0.2 st = v0 :: st) → (z1.1.2 = false → ∀ st, exL (ev σ) z1.2 st = v1 :: st) → (z2.1.2 = false → ∀ st, exL (ev σ) z2.2 st = v2 :: st) → zT X d m_X7_read Q 0 0 127 [some (.ref 50), some (.int (nI t)), some (.int (nI w)), some (.int v0), some (.int v1), some (.int v2)] [] L0 (mm σ1 τ1 r) := by
    intro σ1 τ1 v0 v1 v2 hS hR k0 k1 k2
    have h25 := hR.2.2.2.1
    refine zT.step ct_X7_read_ok ?_
    refine zT.step ct_X7_read_ok ?_
    refine And.intro ⟨by decide, _, rfl⟩ ?_
    refine zT.step ct_X7_read_ok ?_
    refine And.intro (fun h => ?_) (fun h => ?_)
    · have h : σ1 50 25 = 0 := h
      rw [h25] at h
      have h := fb0 h
      have hF := hR.2.2.2.2.1 h
      rw [hS.bytes, hf] at hF
      have kk : k_tok f sz z2.1.1 < 2 ^ 31 := by rcases k_tok_v f sz z2.1.1 with z | z | z | z | z <;> (rw [z.1]; decide)
      refine zT.step ct_X7_read_ok ?_
      refine zT.step ct_X7_read_ok ?_
      refine And.intro ⟨by decide, _, rfl⟩ ?_
      refine zT.step ct_X7_read_ok ?_
      refine And.intro (fun h2 => ?_) (fun h2 => ?_)
      · have h2 : σ1 50 21 = nI 0 := h2
        rw [hF.2.1] at h2
        have h2 := (nI_eq kk (by decide)).mp h2
        have h3 : ps_t f sz z2.1 = -30 := by rw [ps_tf h]; exact tok_en.mpr h2
        have e : ps_x f sz (-30) z2.1 = ps_a f sz z2.1 := by unfold ps_x; rw [if_pos h3]
        have e2 : (ps_x f sz (-30) z2.1).2 = false := by rw [e]; exact h
        refine fin σ1 τ1 v0 v1 v2 hS (by rw [e2, h25, h]) (fun q => by rw [e2] at q; cases q) k0 k1 k2
      · have h2 : ¬ σ1 50 21 = nI 0 := h2
        rw [hF.2.1] at h2
        have h2 : k_tok f sz z2.1.1 ≠ 0 := fun z => h2 (by rw [z])
        have h3 : ¬ ps_t f sz z2.1 = -30 := by rw [ps_tf h]; exact fun z => h2 (tok_en.mp z)
        have e : ps_x f sz (-30) z2.1 = ps_f z2.1 := by unfold ps_x; rw [if_neg h3]
        refine zT.step ct_X7_read_ok ?_
        refine zT.step ct_X7_read_ok ?_
        refine And.intro ⟨by omega, by decide, _, rfl⟩ (zC.use (t_fail hR) (fun w L2 μ2 hw => ?_))
        obtain ⟨rfl, rfl, σ2, rfl, h4, h5⟩ := hw
        refine fin σ2 τ1 v0 v1 v2 (hS.trans (h4.st (by decide))) (by rw [e]; exact h5.2.2.2.1) (fun q => ?_) k0 k1 k2
        rw [e]
        have := h5.2.2.2.2.2 rfl
        rw [h4.bytes, hS.bytes, hf] at this
        exact this
    · have h : ¬ σ1 50 25 = 0 := h
      rw [h25] at h
      have h := fb1 h
      have e : ps_x f sz (-30) z2.1 = z2.1 := bd_x (by decide) h
      refine fin σ1 τ1 v0 v1 v2 hS (by rw [e, h25]) (fun q => ?_) k0 k1 k2
      rw [e]
      have := hR.2.2.2.2.2 h
      rw [hS.bytes, hf] at this
      exact this
  -- a part: the word's test, then part(); key number i
  have pt : ∀ (σ1 : zSg) (τ1 : Nat → Nat → Int64) (s : PS) (i : Nat) (key : Int32), ST 18 σ σ1 → RP σ1 τ1 t sz s 0 → s.2 = false → i < 12 → key = z_wcd.getD i 0 → zC X (d - 1) 0 0 m_X7_part [.ref 50, .int (f_b (decide (ps_t f sz s = key)))] L0 (mm σ1 τ1 r) (fun w L2 μ2 => L2 = L0 ∧ ∃ σ' τ' v, w = some (.int v) ∧ μ2 = mm σ' τ' r ∧ ST 18 σ σ' ∧ RP σ' τ' t sz (pr_part g f sz key s).1 0 ∧ ((pr_part g f sz key s).1.2 = false → ∀ st, exL (ev σ) (pr_part g f sz key s).2 st = v :: st)) := by
    intro σ1 τ1 s i key hS hR hs hi hk
    refine zC.wk (t_part (by omega) (by rw [hS.bytes]; exact hf) hg hi hk hR hs) (fun w L2 μ2 hw => ?_)
    obtain ⟨hL, σ', τ', v, hv, hμ, hSP, hRP, hx⟩ := hw
    exact ⟨hL, σ', τ', v, hv, hμ, hS.trans (hSP.st (by decide)), hRP, fun h st => by rw [← hS.evs]; exact hx h st⟩
  have iw : ∀ (σ1 : zSg) (τ1 : Nat → Nat → Int64) (s : PS) (i : Nat), ST 18 σ σ1 → RP σ1 τ1 t sz s 0 → i < 12 → zF X (d - 1) m_X7_isWord [.ref 50, .int ((z_sb.getD i []).getD 0 0), .int ((z_sb.getD i []).getD 1 0), .int ((z_sb.getD i []).getD 2 0), .int ((z_sb.getD i []).getD 3 0), .int ((z_sb.getD i []).getD 4 0), .int ((z_sb.getD i []).getD 5 0), .int ((z_sb.getD i []).getD 6 0), .int ((z_sb.getD i []).getD 7 0)] L0 (mm σ1 τ1 r) (some (.int (f_b (decide (ps_t f sz s = z_wcd.getD i 0))))) (mm σ1 τ1 r) := by
    intro σ1 τ1 s i hS hR hi
    have := t_isWord (X := X) (d := d - 1) (r := r) hi (by omega) hR
    rw [hS.bytes, hf] at this
    exact this
  -- from 94 on: the third part
  have third : ∀ (σ1 : zSg) (τ1 : Nat → Nat → Int64) (v0 v1 : Int32), ST 18 σ σ1 → RP σ1 τ1 t sz z1.1 0 → (z0.1.2 = false → ∀ st, exL (ev σ) z0.2 st = v0 :: st) → (z1.1.2 = false → ∀ st, exL (ev σ) z1.2 st = v1 :: st) → zT X d m_X7_read Q 0 0 94 [some (.ref 50), some (.int (nI t)), some (.int (nI w)), some (.int v0), some (.int v1), none] [] L0 (mm σ1 τ1 r) := by
    intro σ1 τ1 v0 v1 hS hR k0 k1
    have h25 := hR.2.2.2.1
    refine zT.step ct_X7_read_ok ?_
    refine zT.step ct_X7_read_ok ?_
    refine And.intro ⟨by decide, _, rfl⟩ ?_
    refine zT.step ct_X7_read_ok ?_
    refine And.intro (fun h => ?_) (fun h => ?_)
    · have h : σ1 50 25 = 0 := h
      rw [h25] at h
      have h := fb0 h
      have pp := pt σ1 τ1 z1.1 8 (-25) hS hR h (by decide) rfl
      rw [← p2] at pp
      refine zT.step ct_X7_read_ok ?_
      refine zT.step ct_X7_read_ok ?_
      refine zT.step ct_X7_read_ok ?_
      refine zT.step ct_X7_read_ok ?_
      refine zT.step ct_X7_read_ok ?_
      refine zT.step ct_X7_read_ok ?_
      refine zT.step ct_X7_read_ok ?_
      refine zT.step ct_X7_read_ok ?_
      refine zT.step ct_X7_read_ok ?_
      refine zT.step ct_X7_read_ok ?_
      refine zT.step ct_X7_read_ok ?_
      refine And.intro ⟨by omega, by decide, _, rfl⟩ (zF.use (iw σ1 τ1 z1.1 8 hS hR (by decide)) ?_)
      refine zT.step ct_X7_read_ok ?_
      refine And.intro ⟨by omega, by decide, _, rfl⟩ (zC.use pp (fun w L2 μ2 hw => ?_))
      obtain ⟨rfl, σ2, τ2, v, rfl, rfl, h5, h6, h7⟩ := hw
      refine zT.step ct_X7_read_ok ?_
      exact last σ2 τ2 v0 v1 v h5 h6 k0 k1 h7
    · have h : ¬ σ1 50 25 = 0 := h
      rw [h25] at h
      have h := fb1 h
      refine zT.step ct_X7_read_ok ?_
      refine zT.step ct_X7_read_ok ?_
      refine zT.step ct_X7_read_ok ?_
      exact last σ1 τ1 v0 v1 0 hS (by rw [bad2 h]; exact hR) k0 k1 (fun q => by rw [bad2 h, h] at q; cases q)
  have second : ∀ (σ1 : zSg) (τ1 : Nat → Nat → Int64) (v0 : Int32), ST 18 σ σ1 → RP σ1 τ1 t sz z0.1 0 → (z0.1.2 = false → ∀ st, exL (ev σ) z0.2 st = v0 :: st) → zT X d m_X7_read Q 0 0 61 [some (.ref 50), some (.int (nI t)), some (.int (nI w)), some (.int v0), none, none] [] L0 (mm σ1 τ1 r) := by
    intro σ1 τ1 v0 hS hR k0
    have h25 := hR.2.2.2.1
    refine zT.step ct_X7_read_ok ?_
    refine zT.step ct_X7_read_ok ?_
    refine And.intro ⟨by decide, _, rfl⟩ ?_
    refine zT.step ct_X7_read_ok ?_
    refine And.intro (fun h => ?_) (fun h => ?_)
    · have h : σ1 50 25 = 0 := h
      rw [h25] at h
      have h := fb0 h
      have pp := pt σ1 τ1 z0.1 7 (-24) hS hR h (by decide) rfl
      rw [← p1] at pp
      refine zT.step ct_X7_read_ok ?_
      refine zT.step ct_X7_read_ok ?_
      refine zT.step ct_X7_read_ok ?_
      refine zT.step ct_X7_read_ok ?_
      refine zT.step ct_X7_read_ok ?_
      refine zT.step ct_X7_read_ok ?_
      refine zT.step ct_X7_read_ok ?_
      refine zT.step ct_X7_read_ok ?_
      refine zT.step ct_X7_read_ok ?_
      refine zT.step ct_X7_read_ok ?_
      refine zT.step ct_X7_read_ok ?_
      refine And.intro ⟨by omega, by decide, _, rfl⟩ (zF.use (iw σ1 τ1 z0.1 7 hS hR (by decide)) ?_)
      refine zT.step ct_X7_read_ok ?_
      refine And.intro ⟨by omega, by decide, _, rfl⟩ (zC.use pp (fun w L2 μ2 hw => ?_))
      obtain ⟨rfl, σ2, τ2, v, rfl, rfl, h5, h6, h7⟩ := hw
      refine zT.step ct_X7_read_ok ?_
      exact third σ2 τ2 v0 v h5 h6 k0 h7
    · have h : ¬ σ1 50 25 = 0 := h
      rw [h25] at h
      have h := fb1 h
      refine zT.step ct_X7_read_ok ?_
      refine zT.step ct_X7_read_ok ?_
      refine zT.step ct_X7_read_ok ?_
      exact third σ1 τ1 v0 0 hS (by rw [bad1 h]; exact hR) k0 (fun q => by rw [bad1 h, h] at q; cases q)
  refine zC.of mk_X7_read rfl ?_
  refine zT.step ct_X7_read_ok ?_
  refine zT.step ct_X7_read_ok ?_
  refine zT.step ct_X7_read_ok ?_
  refine zT.step ct_X7_read_ok ?_
  refine zT.step ct_X7_read_ok ?_
  refine And.intro ⟨by decide, _, rfl⟩ ?_
  refine zT.step ct_X7_read_ok ?_
  refine zT.step ct_X7_read_ok ?_
  refine zT.step ct_X7_read_ok ?_
  refine And.intro ⟨by decide, _, rfl⟩ ?_
  refine zT.step ct_X7_read_ok ?_
  refine zT.step ct_X7_read_ok ?_
  refine Exists.intro t (And.intro ⟨rfl, by decide, 6, rfl, ht6, by decide⟩ ?_)
  refine zT.step ct_X7_read_ok ?_
  refine And.intro ⟨by decide, _, rfl⟩ ?_
  refine zT.step ct_X7_read_ok ?_
  refine zT.step ct_X7_read_ok ?_
  refine zT.step ct_X7_read_ok ?_
  refine And.intro ⟨by decide, _, rfl⟩ ?_
  refine zT.step ct_X7_read_ok ?_
  refine zT.step ct_X7_read_ok ?_
  refine zT.step ct_X7_read_ok ?_
  refine And.intro ⟨by decide, _, rfl⟩ ?_
  refine zT.step ct_X7_read_ok ?_
  refine zT.step ct_X7_read_ok ?_
  refine zT.step ct_X7_read_ok ?_
  refine And.intro ⟨⟨by decide, _, rfl⟩, by decide⟩ ?_
  refine zT.abs (τ := τ) (r := r) rfl fun σ1 e1 => ?_
  simp only [sI_1, mm_1] at e1
  have S1 : ST 18 σ σ1 := by
    rw [e1]
    exact ((((ST.up (by decide) (by decide)).trans (ST.up (by decide) (by decide))).trans (ST.up (by decide) (by decide))).trans (ST.up (by decide) (by decide))).trans (ST.up (by decide) (by decide))
  have a18 : σ1 50 18 = nI (160 * t) := by
    rw [e1, zu_k _ _ _ _ _ (by decide), zu_k _ _ _ _ _ (by decide), zu_k _ _ _ _ _ (by decide), zu_k _ _ _ _ _ (by decide), z_up_s]
    exact nI_mulN 160 t
  have a19 : σ1 50 19 = nI sz := by
    rw [e1, zu_k _ _ _ _ _ (by decide), zu_k _ _ _ _ _ (by decide), zu_k _ _ _ _ _ (by decide), z_up_s, zu_n _ _ _ _ _ (by decide)]
    exact h52
  have a20 : σ1 50 20 = nI 0 := by
    rw [e1, zu_k _ _ _ _ _ (by decide), zu_k _ _ _ _ _ (by decide), z_up_s]
    rfl
  have a24 : σ1 50 24 = nI 0 := by
    rw [e1, zu_k _ _ _ _ _ (by decide), z_up_s]
    rfl
  have a25 : σ1 50 25 = 0 := by rw [e1, z_up_s]
  clear e1
  have B1 : RB σ1 t sz := ⟨a18, a19, hsz, ht6, fun i hi => by rw [S1.1 51 (by decide)]; exact hby i hi⟩
  have nx := t_next (X := X) (d := d - 1) (τ := τ) (r := r) (p := 0) (by omega) B1 a20 (by omega)
  rw [S1.bytes, hf] at nx
  refine zT.step ct_X7_read_ok ?_
  refine zT.step ct_X7_read_ok ?_
  refine And.intro ⟨by omega, by decide, _, rfl⟩ (zC.use nx (fun w L2 μ2 hw => ?_))
  obtain ⟨rfl, rfl, σ2, τ2, rfl, hN, hTF⟩ := hw
  have S2 : ST 18 σ σ2 := S1.trans (hN.st (by decide))
  have R2 : RP σ2 τ2 t sz (0, false) 0 := by
    refine ⟨hN.rb B1, Nat.zero_le _, ?_, ?_, fun _ => ?_, fun h => by cases h⟩
    · rw [hN.2 24 (by decide) (by decide) (by decide)]; exact a24
    · rw [hN.2 25 (by decide) (by decide) (by decide)]; exact a25
    · rw [S2.bytes, hf]; exact hTF
  have pp := pt σ2 τ2 (0, false) 6 (-23) S2 R2 rfl (by decide) rfl
  rw [← p0] at pp
  refine zT.step ct_X7_read_ok ?_
  refine zT.step ct_X7_read_ok ?_
  refine zT.step ct_X7_read_ok ?_
  refine zT.step ct_X7_read_ok ?_
  refine zT.step ct_X7_read_ok ?_
  refine zT.step ct_X7_read_ok ?_
  refine zT.step ct_X7_read_ok ?_
  refine zT.step ct_X7_read_ok ?_
  refine zT.step ct_X7_read_ok ?_
  refine zT.step ct_X7_read_ok ?_
  refine zT.step ct_X7_read_ok ?_
  refine And.intro ⟨by omega, by decide, _, rfl⟩ (zF.use (iw σ2 τ2 (0, false) 6 S2 R2 (by decide)) ?_)
  refine zT.step ct_X7_read_ok ?_
  refine And.intro ⟨by omega, by decide, _, rfl⟩ (zC.use pp (fun w L2 μ2 hw => ?_))
  obtain ⟨rfl, σ3, τ3, v, rfl, rfl, h5, h6, h7⟩ := hw
  refine zT.step ct_X7_read_ok ?_
  exact second σ3 τ3 v h5 h6 h7
