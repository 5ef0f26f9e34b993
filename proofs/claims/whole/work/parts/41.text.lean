/-! references that don't matter; Reader.readInto, ShadowTax.text -/
def z_rl (sh : zSh) (k : Nat) : Bool := (Nat.blt sh.1 10 && Nat.blt k (z_nf sh.1) && Nat.blt 1 (z_fk sh.1 k)) || (Nat.ble 20 sh.1 && Nat.blt k sh.2)
def zIrr (L : List zSh) (μ μ' : zMem) : Prop := μ'.1 = μ.1 ∧ μ'.2.1 = μ.2.1 ∧ ∀ (a : Nat) (sh : zSh), L[a]? = some sh → ∀ k, z_rl sh k = true → μ'.2.2 a k = μ.2.2 a k
theorem zRel.irr {b : Nat} {oa : Nat → Nat} {D : va_G} {ca : Nat → ClassId} {L : List zSh} {μ μ' : zMem} {H : Heap} (hi : zIrr L μ μ') (h : zRel b oa D ca L μ H) : zRel b oa D ca L μ' H := by
  refine ⟨fun k q hq => ?_, h.2⟩
  obtain ⟨hk, rfl⟩ := z_ws_inv hq
  have hL : L[k]? = some (L.getD k (0, 0)) := by rw [List.getD_eq_getElem?_getD, List.getElem?_eq_getElem hk]; rfl
  have hr := hi.2.2 k _ hL
  have h0 := h.1 k _ (z_ws_get hL)
  generalize L.getD k (0, 0) = sh at hr h0 ⊢
  by_cases h10 : sh.1 < 10
  · have e : z_ent b oa ca sh μ' k = z_ent b oa ca sh μ k := by
      unfold z_ent
      rw [if_pos h10, if_pos h10]
      refine congrArg (fun l => Sum.inr (sh.1, l)) (List.map_congr_left fun j hj => ?_)
      have hj : j < z_nf sh.1 := List.mem_range.mp hj
      unfold z_fv
      rw [hi.1, hi.2.1]
      rcases hf : z_fk sh.1 j with _ | _ | w
      · rfl
      · rfl
      · have e2 : μ'.2.2 k j = μ.2.2 k j := hr j (by
          unfold z_rl
          rw [hf, show Nat.blt sh.1 10 = true from Nat.ble_eq_true_of_le h10, show Nat.blt j (z_nf sh.1) = true from Nat.ble_eq_true_of_le hj, show Nat.blt 1 (w + 2) = true from Nat.ble_eq_true_of_le (by omega)]
          rfl)
        show z_tr b oa (z_rv (μ'.2.2 k j)) = z_tr b oa (z_rv (μ.2.2 k j))
        rw [e2]
    rw [e]
    exact h0
  by_cases h20 : sh.1 < 20
  · have e : z_ent b oa ca sh μ' k = z_ent b oa ca sh μ k := by
      unfold z_ent
      rw [if_neg h10, if_pos h20, if_neg h10, if_pos h20, hi.1]
    rw [e]
    exact h0
  · have e1 : ∀ ν : zMem, z_ent b oa ca sh ν k = .inl (ca sh.1, sh.2, .inr (.inr (.inr (.inr (fun i => (ν.2.2 k i).map (z_ta b oa)))))) := by
      intro ν
      unfold z_ent
      rw [if_neg h10, if_neg h20]
    rw [e1] at h0 ⊢
    have h0 : H[b + k]? = some (arrV (ca sh.1) sh.2 (fun j => va_rf ((μ.2.2 k j).map (z_ta b oa)))) := h0
    show H[b + k]? = some (arrV (ca sh.1) sh.2 (fun j => va_rf ((μ'.2.2 k j).map (z_ta b oa))))
    rw [h0]
    unfold arrV
    congr 2
    refine congrArg Array.ofFn (funext fun j => ?_)
    have e2 : μ'.2.2 k j.val = μ.2.2 k j.val := hr j.val (by
      unfold z_rl
      rw [show Nat.ble 20 sh.1 = true from Nat.ble_eq_true_of_le (by omega), show Nat.blt j.val sh.2 = true from Nat.ble_eq_true_of_le j.isLt]
      simp)
    show va_rf _ = va_rf _
    rw [e2]
theorem zT.irr {X : zXs} {d : Nat} {M : zMD} {Q : zRQ} {k n pc : Nat} {ls : zLs} {st : List Value} {L : List zSh} {μ μ' : zMem} (hi : zIrr L μ μ') (h : zT X d M Q k n pc ls st L μ') : zT X d M Q k n pc ls st L μ := by
  intro ⟨⟨p, l, e, R, s⟩, ⟨m, args, below, meth, c⟩, ⟨b, oa, D, ca⟩, ⟨Z, mc, ms⟩⟩ G H locs cells slots lsM hk hn hR hS hL
  exact h ((p, l, e, R, s), (m, args, below, meth, c), (b, oa, D, ca), (Z, mc, ms)) G H locs cells slots lsM hk hn (hR.irr hi) hS hL
theorem rho_ru (r : Option Nat) (v : Nat) : ∀ (a : Nat) (sh : zSh), L0[a]? = some sh → ∀ k, z_rl sh k = true → z_rho (some v) a k = z_up (z_rho r) 34 6 (some v) a k := by
  intro a sh ha k hk
  unfold z_up
  by_cases h : a = 34
  · subst h
    have e : sh = (1, 0) := (Option.some.inj ha).symm
    subst e
    by_cases h6 : k = 6
    · subst h6; rfl
    · rw [if_neg (fun q => h6 q.2)]
      by_cases h1 : k = 1
      · subst h1; rfl
      · have hk7 : k < 7 := by
          rcases Nat.lt_or_ge k 7 with q | q
          · exact q
          · have : Nat.blt k (z_nf 1) = false := by
              cases e : Nat.blt k (z_nf 1) with
              | false => rfl
              | true => have := Nat.le_of_ble_eq_true e; have : k + 1 ≤ 7 := this; omega
            unfold z_rl at hk
            rw [this] at hk
            exact absurd hk (by simp)
        match k, hk7, h1, h6, hk with
        | 0, _, _, _, hk => exact absurd hk (by decide)
        | 2, _, _, _, hk => exact absurd hk (by decide)
        | 3, _, _, _, hk => exact absurd hk (by decide)
        | 4, _, _, _, hk => exact absurd hk (by decide)
        | 5, _, _, _, hk => exact absurd hk (by decide)
        | 1, _, h1, _, _ => exact absurd rfl h1
        | 6, _, _, h6, _ => exact absurd rfl h6
  · rw [if_neg (fun q => h q.1)]
    have hb : Nat.beq a 34 = false := by
      cases e : Nat.beq a 34 with
      | false => rfl
      | true => exact absurd (Nat.eq_of_beq_eq_true e) h
    unfold z_rho
    rw [hb]
    rfl
/-- a base for rm: q parts have been ended, at E -/
def pe (σ : zSg) (t q : Nat) (E : Nat → Int32) : zSg := z_up (z_row σ (18 + 3 * t) E) (16 + 3 * t) 3 (nI q)
theorem pe_o (σ : zSg) (t q : Nat) (E : Nat → Int32) (c : Nat) (h1 : c ≠ 16 + 3 * t) (h2 : c ≠ 18 + 3 * t) : pe σ t q E c = σ c := by
  unfold pe
  rw [zu_n _ _ _ _ _ h1, z_row_n _ _ _ _ h2]
theorem pe_end (σ : zSg) (t sz q : Nat) (E : Nat → Int32) (s : PS) (c : List Int32) (ht : t < 6) (n : Nat) : z_up (z_up (rm (pe σ t q E) t sz s c) (18 + 3 * t) q (nI n)) (16 + 3 * t) 3 (nI (q + 1)) = rm (pe σ t (q + 1) (upd E q (nI n))) t sz s c := by
  have e35 : ∀ q E, pe σ t q E 35 = σ 35 := fun q E => pe_o _ _ _ _ _ (by omega) (by omega)
  have e34 : ∀ q E, pe σ t q E 34 = σ 34 := fun q E => pe_o _ _ _ _ _ (by omega) (by omega)
  have e17 : ∀ q E, pe σ t q E (17 + 3 * t) = σ (17 + 3 * t) := fun q E => pe_o _ _ _ _ _ (by omega) (by omega)
  funext a k
  unfold z_up rm
  rw [e35, e35]
  by_cases h : a = 34
  · subst h
    rw [if_neg (by omega), if_neg (by omega), if_pos rfl, if_pos rfl, e34, e34]
  by_cases h1 : a = 16 + 3 * t
  · subst h1
    by_cases h3 : k = 3
    · subst h3
      rw [if_pos ⟨rfl, rfl⟩, if_neg h, if_pos rfl, if_neg (by decide)]
      unfold pe
      rw [z_up_s]
    · rw [if_neg (fun z => h3 z.2), if_neg (by omega), if_neg h, if_pos rfl, if_neg h, if_pos rfl]
      unfold pe
      rw [zu_k _ _ _ _ _ h3, zu_k _ _ _ _ _ h3, z_row_n _ _ _ _ (by omega), z_row_n _ _ _ _ (by omega)]
  by_cases h2 : a = 17 + 3 * t
  · subst h2
    rw [if_neg (by omega), if_neg (by omega), if_neg h, if_neg h1, if_pos rfl, if_neg h, if_neg h1, if_pos rfl, e17, e17]
  by_cases h4 : a = 18 + 3 * t
  · subst h4
    have p1 : ∀ q E k, pe σ t q E (18 + 3 * t) k = E k := fun q E k => by unfold pe; rw [zu_n _ _ _ _ _ (by omega), z_row_s]
    rw [if_neg (by omega), if_neg h, if_neg h1, if_neg h2, if_neg h, if_neg h1, if_neg h2, p1, p1]
    unfold upd
    by_cases h3 : k = q
    · rw [if_pos ⟨rfl, h3⟩, if_pos h3]
    · rw [if_neg (fun z => h3 z.2), if_neg h3]
  · rw [if_neg (fun z => h1 z.1), if_neg (fun z => h4 z.1), if_neg h, if_neg h1, if_neg h2, if_neg h, if_neg h1, if_neg h2, pe_o _ _ _ _ _ h1 h4, pe_o _ _ _ _ _ h1 h4]
theorem rm_init (σ : zSg) (t sz : Nat) (ht : t < 6) : rk (z_up (z_up (z_up (z_up σ (16 + 3 * t) 2 0) (16 + 3 * t) 3 0) 34 2 0) 34 5 (-1)) (lx_e (σ 35) sz 0) (lx_b (σ 35) sz 0) (lx_t (σ 35) sz 0) = rm (pe σ t 0 (σ (18 + 3 * t))) t sz (0, false) [] := by
  have e35 : ∀ q E, pe σ t q E 35 = σ 35 := fun q E => pe_o _ _ _ _ _ (by omega) (by omega)
  have e34 : ∀ q E, pe σ t q E 34 = σ 34 := fun q E => pe_o _ _ _ _ _ (by omega) (by omega)
  funext a k
  unfold rk rm
  rw [e35]
  by_cases h : a = 34
  · subst h
    rw [if_pos rfl, if_pos rfl]
    unfold z_up
    by_cases h2 : k = 2
    · simp [h2]
    · by_cases h3 : k = 3
      · simp [h3]
      · by_cases h4 : k = 4
        · simp [h4, ps_t]
        · by_cases h5 : k = 5
          · simp [h5]
          · simp only [h2, h3, h4, h5, and_false, if_false, e34]
  · rw [if_neg h, if_neg h, zu_n _ _ _ _ _ h, zu_n _ _ _ _ _ h]
    by_cases h1 : a = 16 + 3 * t
    · subst h1
      rw [if_pos rfl]
      unfold pe
      by_cases h2 : k = 2
      · subst h2; rw [zu_k _ _ _ _ _ (by decide), z_up_s]; rfl
      · rw [if_neg h2]
        by_cases h3 : k = 3
        · subst h3; rw [z_up_s, z_up_s]; rfl
        · rw [zu_k _ _ _ _ _ h3, zu_k _ _ _ _ _ h2, zu_k _ _ _ _ _ h3, z_row_n _ _ _ _ (by omega)]
    · rw [if_neg h1, zu_n _ _ _ _ _ h1, zu_n _ _ _ _ _ h1]
      unfold pe
      rw [zu_n _ _ _ _ _ h1]
      by_cases h4 : a = 18 + 3 * t
      · subst h4
        rw [z_row_s, if_neg (by omega)]
      · rw [z_row_n _ _ _ _ h4]
        by_cases h2 : a = 17 + 3 * t
        · rw [if_pos h2, if_neg (by show ¬ k < 0; omega)]
        · rw [if_neg h2]
/-- a text: its parts read one behind the other; g reads an E -/
def pr_E (f : Nat → Int32) (sz : Nat) : PT := pr_L f sz (pr_D f sz 5) 0
def pr_part (g : PT) (f : Nat → Int32) (sz : Nat) (key : Int32) : PT := fun s => (ps_x f sz (-22) (g (ps_x f sz key s)).1, (g (ps_x f sz key s)).2)
def tx_0 (g : PT) (f : Nat → Int32) (sz : Nat) : PS × List Int32 := pr_part g f sz (-23) (0, false)
def tx_1 (g : PT) (f : Nat → Int32) (sz : Nat) : PS × List Int32 := pr_part g f sz (-24) (tx_0 g f sz).1
def tx_2 (g : PT) (f : Nat → Int32) (sz : Nat) : PS × List Int32 := pr_part g f sz (-25) (tx_1 g f sz).1
def tx_s (g : PT) (f : Nat → Int32) (sz : Nat) : PS := ps_x f sz (-30) (tx_2 g f sz).1
def tx_c (g : PT) (f : Nat → Int32) (sz : Nat) : List Int32 := (tx_0 g f sz).2 ++ (tx_1 g f sz).2 ++ (tx_2 g f sz).2
def tx_e (g : PT) (f : Nat → Int32) (sz : Nat) (E : Nat → Int32) : Nat → Int32 := upd (upd (upd E 0 (nI (tx_0 g f sz).2.length)) 1 (nI ((tx_0 g f sz).2 ++ (tx_1 g f sz).2).length)) 2 (nI (tx_c g f sz).length)
theorem PK.E {f : Nat → Int32} {sz : Nat} : PK sz (pr_E f sz) := PK.L (fun d e => PK.D 5 d e) 0
theorem PK.part {g : PT} {f : Nat → Int32} {sz : Nat} {key : Int32} (hg : PK sz g) {s : PS} {z : PS × List Int32} (hz : z = pr_part g f sz key s) (hs : s.1 ≤ sz) : s.1 + z.2.length ≤ z.1.1 ∧ z.1.1 ≤ sz := by
  unfold pr_part at hz
  have h1 := ps_x_le (f := f) (due := key) hs
  generalize ps_x f sz key s = s1 at hz h1
  have h2 := hg s1 h1.2
  generalize g s1 = rr at hz h2
  have h3 := ps_x_le (f := f) (due := -22) h2.2
  generalize ps_x f sz (-22) rr.1 = s3 at hz h3
  subst hz
  dsimp only
  omega
def tx_f (g : PT) (f : Nat → Int32) (sz : Nat) : Int32 := bif (tx_s g f sz).2 then nI (lx_b f sz (tx_s g f sz).1) else -1
def u_rd (g : PT) (σ : zSg) (t sz : Nat) : zSg := z_up (rm (pe σ t 3 (tx_e g (σ 35) sz (σ (18 + 3 * t)))) t sz (tx_s g (σ 35) sz) (tx_c g (σ 35) sz)) 34 0 0
theorem s_part {X : zXs} {d t sz q : Nat} {σ : zSg} {τ : Nat → Nat → Int64} {g : PT} {E : Nat → Int32} {s : PS} {c : List Int32} {Q : zRQ} {key : Int32} {z : PS × List Int32} (hd : 51 ≤ d) (ht : t < 6) (h0 : σ 34 0 = nI sz) (hsz : sz ≤ 160) (hg : PK sz g) (hS : ∀ q E, SLv X (pe σ t q E) τ t sz 5 0 g) (hq : q < 3) (hkey : key = -23 - nI q) (k1 : key ≠ -31) (hs : s.1 ≤ sz) (hc : c.length ≤ s.1) (hz : z = pr_part g (σ 35) sz key s) (K : zT X d m_X1_readInto Q 0 0 28 [some (.ref 34), some (.ref (16 + 3 * t)), some (.int (nI (q + 1)))] [] L0 (mm (rm (pe σ t (q + 1) (upd E q (nI (c ++ z.2).length))) t sz z.1 (c ++ z.2)) τ (some (16 + 3 * t)))) :
    zT X d m_X1_readInto Q 0 0 28 [some (.ref 34), some (.ref (16 + 3 * t)), some (.int (nI q))] [] L0 (mm (rm (pe σ t q E) t sz s c) τ (some (16 + 3 * t))) := by
  obtain ⟨hLr, hLs, hLe⟩ := L0_rule ht
  have e35 : ∀ q E, pe σ t q E 35 = σ 35 := fun q E => pe_o _ _ _ _ _ (by omega) (by omega)
  have e34 : ∀ q E, pe σ t q E 34 = σ 34 := fun q E => pe_o _ _ _ _ _ (by omega) (by omega)
  have h34 : pe σ t q E 34 0 = nI sz := by rw [e34]; exact h0
  have f1 := s_expect (X := X) (d := d - 1) (τ := τ) (r := some (16 + 3 * t)) (σ := pe σ t q E) (c := c) (due := key) ht (by omega) h34 hsz hs k1
  rw [e35] at f1
  unfold pr_part at hz
  have x1 := ps_x_le (f := σ 35) (due := key) hs
  generalize ps_x (σ 35) sz key s = s1 at hz x1 f1
  have x2 := hg s1 x1.2
  have f2 := hS q E (d - 1) s1 c (by omega) x1.2 (by omega)
  generalize g s1 = rr at hz x2 f2
  have x3 := ps_x_le (f := σ 35) (due := -22) x2.2
  have f3 := s_expect (X := X) (d := d - 1) (τ := τ) (r := some (16 + 3 * t)) (σ := pe σ t q E) (c := c ++ rr.2) (due := -22) ht (by omega) h34 hsz x2.2 (by decide)
  rw [e35] at f3
  generalize ps_x (σ 35) sz (-22) rr.1 = s3 at hz x3 f3
  subst hz
  dsimp only at K
  have f4 := s_endPart (X := X) (d := d - 1) (τ := τ) (r := some (16 + 3 * t)) (σ := rm (pe σ t q E) t sz s3 (c ++ rr.2)) (q := q) (n := (c ++ rr.2).length) ht (by unfold rm pe; rw [if_neg (by omega), if_pos rfl, if_neg (by decide), z_up_s]) (rm_sz _ _ _ _ _ ht) hq
  rw [pe_end _ _ _ _ _ _ _ ht] at f4
  refine zT.step ct_X1_readInto_ok ?_
  refine zT.step ct_X1_readInto_ok ?_
  refine zT.step ct_X1_readInto_ok ?_
  refine And.intro (fun h => absurd h (nI_ge hq (by decide))) (fun _ => ?_)
  refine zT.step ct_X1_readInto_ok ?_
  refine zT.step ct_X1_readInto_ok ?_
  refine zT.step ct_X1_readInto_ok ?_
  refine zT.step ct_X1_readInto_ok ?_
  show zT X d m_X1_readInto _ 0 0 38 _ [.int (-23 - nI q), .ref 34] _ _
  rw [← hkey]
  refine zT.step ct_X1_readInto_ok ?_
  refine And.intro ⟨by omega, by decide, _, rfl⟩ (zF.use f1 ?_)
  refine zT.step ct_X1_readInto_ok ?_
  refine zT.step ct_X1_readInto_ok ?_
  refine zT.step ct_X1_readInto_ok ?_
  refine zT.step ct_X1_readInto_ok ?_
  refine And.intro ⟨by omega, by decide, _, rfl⟩ (zF.use f2 ?_)
  refine zT.step ct_X1_readInto_ok ?_
  refine zT.step ct_X1_readInto_ok ?_
  refine zT.step ct_X1_readInto_ok ?_
  refine And.intro ⟨by omega, by decide, _, rfl⟩ (zF.use f3 ?_)
  refine zT.step ct_X1_readInto_ok ?_
  refine zT.step ct_X1_readInto_ok ?_
  refine And.intro ⟨by decide, _, rfl⟩ ?_
  refine zT.step ct_X1_readInto_ok ?_
  refine And.intro ⟨by omega, hLr⟩ (zF.use f4 ?_)
  refine zT.step ct_X1_readInto_ok ?_
  refine zT.step ct_X1_readInto_ok ?_
  rw [nI_1]
  exact K
theorem s_readInto {X : zXs} {d t sz : Nat} {σ : zSg} {τ : Nat → Nat → Int64} {r : Option Nat} {g : PT} (hd : 51 ≤ d) (ht : t < 6) (h0 : σ 34 0 = nI sz) (hsz : sz ≤ 160) (hg : PK sz g) (hS : ∀ q E, SLv X (pe σ t q E) τ t sz 5 0 g) : zF X d m_X1_readInto [.ref 34, .ref (16 + 3 * t)] L0 (mm σ τ r) (some (.int (tx_f g (σ 35) sz))) (mm (u_rd g σ t sz) τ (some (16 + 3 * t))) := by
  obtain ⟨hLr, hLs, hLe⟩ := L0_rule ht
  have e35 : ∀ q E, pe σ t q E 35 = σ 35 := fun q E => pe_o _ _ _ _ _ (by omega) (by omega)
  have e34 : ∀ q E, pe σ t q E 34 = σ 34 := fun q E => pe_o _ _ _ _ _ (by omega) (by omega)
  have f0 := s_advance (X := X) (d := d - 1) (p := 0) (τ := τ) (r := some (16 + 3 * t)) (sz := sz) (σ := z_up (z_up (z_up (z_up σ (16 + 3 * t) 2 0) (16 + 3 * t) 3 0) 34 2 0) 34 5 (-1)) (by omega) (by rw [zu_k _ _ _ _ _ (by decide), zu_k _ _ _ _ _ (by decide), zu_n _ _ _ _ _ (by omega), zu_n _ _ _ _ _ (by omega)]; exact h0) hsz (by rw [zu_k _ _ _ _ _ (by decide), z_up_s]; rfl) (by omega)
  rw [zu_n _ _ _ 35 _ (by decide), zu_n _ _ _ 35 _ (by decide), zu_n _ _ _ 35 _ (by omega), zu_n _ _ _ 35 _ (by omega), rm_init _ _ _ ht] at f0
  unfold tx_f u_rd tx_e tx_s tx_c
  obtain ⟨z0, hz0⟩ : ∃ z, z = tx_0 g (σ 35) sz := ⟨_, rfl⟩
  obtain ⟨z1, hz1⟩ : ∃ z, z = tx_1 g (σ 35) sz := ⟨_, rfl⟩
  obtain ⟨z2, hz2⟩ : ∃ z, z = tx_2 g (σ 35) sz := ⟨_, rfl⟩
  rw [← hz0, ← hz1, ← hz2]
  unfold tx_2 at hz2
  rw [← hz1] at hz2
  unfold tx_1 at hz1
  rw [← hz0] at hz1
  unfold tx_0 at hz0
  have y0 := PK.part hg hz0 (Nat.zero_le _)
  have y1 := PK.part hg hz1 y0.2
  have y2 := PK.part hg hz2 y1.2
  have c0 : (([] : List Int32) ++ z0.2).length ≤ z0.1.1 := by have := y0.1; rw [List.nil_append]; dsimp only at this; omega
  have c1 : (([] : List Int32) ++ z0.2 ++ z1.2).length ≤ z1.1.1 := by have := y1.1; rw [List.length_append]; omega
  obtain ⟨s4, hs4⟩ : ∃ z, z = ps_x (σ 35) sz (-30) z2.1 := ⟨_, rfl⟩
  rw [← hs4]
  refine zF.of mk_X1_readInto rfl ?_
  refine zT.step ct_X1_readInto_ok ?_
  refine zT.step ct_X1_readInto_ok ?_
  refine zT.step ct_X1_readInto_ok ?_
  refine And.intro ⟨by decide, _, rfl⟩ ?_
  refine zT.irr (μ' := mm σ τ (some (16 + 3 * t))) ⟨rfl, rfl, rho_ru r (16 + 3 * t)⟩ ?_
  refine zT.step ct_X1_readInto_ok ?_
  refine zT.step ct_X1_readInto_ok ?_
  refine And.intro ⟨by decide, _, rfl⟩ ?_
  refine zT.step ct_X1_readInto_ok ?_
  refine And.intro ⟨by omega, hLr⟩ (zF.use (s_empty ht) ?_)
  refine zT.step ct_X1_readInto_ok ?_
  refine zT.step ct_X1_readInto_ok ?_
  refine zT.step ct_X1_readInto_ok ?_
  refine And.intro ⟨by decide, _, rfl⟩ ?_
  refine zT.step ct_X1_readInto_ok ?_
  refine zT.step ct_X1_readInto_ok ?_
  refine zT.step ct_X1_readInto_ok ?_
  refine And.intro ⟨by decide, _, rfl⟩ ?_
  refine zT.step ct_X1_readInto_ok ?_
  refine zT.step ct_X1_readInto_ok ?_
  refine And.intro ⟨by omega, by decide, _, rfl⟩ (zF.use f0 ?_)
  refine zT.step ct_X1_readInto_ok ?_
  refine zT.step ct_X1_readInto_ok ?_
  refine s_part hd ht h0 hsz hg hS (q := 0) (key := -23) (by decide) (by decide) (by decide) (Nat.zero_le _) (Nat.le_refl _) hz0 ?_
  refine s_part hd ht h0 hsz hg hS (q := 1) (key := -24) (by decide) (by decide) (by decide) y0.2 c0 hz1 ?_
  refine s_part hd ht h0 hsz hg hS (q := 2) (key := -25) (by decide) (by decide) (by decide) y1.2 c1 hz2 ?_
  have f5 := s_expect (X := X) (d := d - 1) (τ := τ) (r := some (16 + 3 * t)) (σ := pe σ t 3 (upd (upd (upd (σ (18 + 3 * t)) 0 (nI (([] : List Int32) ++ z0.2).length)) 1 (nI (([] : List Int32) ++ z0.2 ++ z1.2).length)) 2 (nI (([] : List Int32) ++ z0.2 ++ z1.2 ++ z2.2).length))) (c := ([] : List Int32) ++ z0.2 ++ z1.2 ++ z2.2) (due := -30) ht (by omega) (by rw [e34]; exact h0) hsz y2.2 (by decide)
  rw [e35, ← hs4] at f5
  refine zT.step ct_X1_readInto_ok ?_
  refine zT.step ct_X1_readInto_ok ?_
  refine zT.step ct_X1_readInto_ok ?_
  refine And.intro (fun _ => ?_) (fun h => absurd (by decide) h)
  refine zT.step ct_X1_readInto_ok ?_
  refine zT.step ct_X1_readInto_ok ?_
  refine zT.step ct_X1_readInto_ok ?_
  refine And.intro ⟨by omega, by decide, _, rfl⟩ (zF.use f5 ?_)
  refine zT.step ct_X1_readInto_ok ?_
  refine zT.step ct_X1_readInto_ok ?_
  refine zT.step ct_X1_readInto_ok ?_
  refine And.intro ⟨by decide, _, rfl⟩ ?_
  refine zT.step ct_X1_readInto_ok ?_
  refine zT.step ct_X1_readInto_ok ?_
  refine And.intro ⟨by decide, _, rfl⟩ ?_
  refine zT.step ct_X1_readInto_ok ?_
  refine And.intro ?_ (And.intro rfl rfl)
  show some (Value.int (bif s4.2 then nI (lx_b (pe σ t 3 _ 35) sz s4.1) else -1)) = _
  rw [e35]
/-! ShadowTax.text: m texts, sz bytes on the tape -/
def v_text (g : PT) (m : Nat) (f : Nat → Int32) (sz : Nat) : Int32 := if m = 6 then -4 else bif (tx_s g f sz).2 then -100 - nI (lx_b f sz (tx_s g f sz).1) else nI m
def u_text (g : PT) (σ : zSg) (m sz : Nat) : zSg := if m = 6 then σ else bif (tx_s g (σ 35) sz).2 then u_rd g σ m sz else z_up (u_rd g σ m sz) 1 3 (nI (m + 1))
theorem s_text {X : zXs} {d m sz : Nat} {σ : zSg} {τ : Nat → Nat → Int64} {r : Option Nat} {g : PT} (hd : 52 ≤ d) (hm : σ 1 3 = nI m) (hm6 : m ≤ 6) (h0 : σ 34 0 = nI sz) (hsz : sz ≤ 160) (hg : PK sz g) (hS : m < 6 → ∀ q E, SLv X (pe σ m q E) τ m sz 5 0 g) : zC X d 0 0 m_X6_text [.ref 0] L0 (mm σ τ r) (fun w L2 μ2 => w = some (.int (v_text g m (σ 35) sz)) ∧ L2 = L0 ∧ ∃ r', μ2 = mm (u_text g σ m sz) τ r') := by
  have u13 : m < 6 → u_rd g σ m sz 1 3 = nI m := by
    intro h
    unfold u_rd
    rw [zu_n _ _ _ _ _ (by decide), rm_o _ _ _ _ _ _ (by decide) (by omega) (by omega), pe_o _ _ _ _ _ (by omega) (by omega)]
    exact hm
  have hb : lx_b (σ 35) sz (tx_s g (σ 35) sz).1 ≤ sz := by
    have y0 := PK.part hg (show tx_0 g (σ 35) sz = _ from rfl) (Nat.zero_le _)
    have y1 := PK.part hg (show tx_1 g (σ 35) sz = _ from rfl) y0.2
    have y2 := PK.part hg (show tx_2 g (σ 35) sz = _ from rfl) y1.2
    have y3 := ps_x_le (f := σ 35) (due := -30) y2.2
    exact (lx_b_le (f := σ 35) y3.2).2
  have rd : m < 6 → zF X (d - 1) m_X1_readInto [.ref 34, .ref (16 + 3 * m)] L0 (mm σ τ r) (some (.int (tx_f g (σ 35) sz))) (mm (u_rd g σ m sz) τ (some (16 + 3 * m))) := fun h => s_readInto (by omega) h h0 hsz hg (hS h)
  unfold v_text u_text
  unfold tx_f at rd
  generalize lx_b (σ 35) sz (tx_s g (σ 35) sz).1 = fb at hb rd ⊢
  generalize (tx_s g (σ 35) sz).2 = bad at rd ⊢
  generalize u_rd g σ m sz = ud at u13 rd ⊢
  refine zC.of mk_X6_text rfl ?_
  refine zT.step ct_X6_text_ok ?_
  refine zT.step ct_X6_text_ok ?_
  refine And.intro ⟨by decide, _, rfl⟩ ?_
  refine zT.step ct_X6_text_ok ?_
  refine And.intro ⟨by decide, _, rfl⟩ ?_
  refine zT.step ct_X6_text_ok ?_
  refine zT.step ct_X6_text_ok ?_
  refine And.intro ⟨by decide, _, rfl⟩ ?_
  refine zT.step ct_X6_text_ok ?_
  refine And.intro ⟨by decide, _, rfl⟩ ?_
  refine zT.step ct_X6_text_ok ?_
  refine And.intro ⟨by decide, rfl⟩ ?_
  refine zT.step ct_X6_text_ok ?_
  refine And.intro (fun h => ?_) (fun h => ?_)
  · have h : σ 1 3 < 6 := h
    rw [hm] at h
    have h : m < 6 := (i_lt (x := nI m) (y := 6) (b := 6) rfl rfl (by omega) (by omega)).mp h
    rw [if_neg (show ¬ m = 6 by omega), if_neg (show ¬ m = 6 by omega)]
    refine zT.step ct_X6_text_ok ?_
    refine zT.step ct_X6_text_ok ?_
    refine And.intro ⟨by decide, _, rfl⟩ ?_
    refine zT.step ct_X6_text_ok ?_
    refine zT.step ct_X6_text_ok ?_
    refine And.intro ⟨by decide, _, rfl⟩ ?_
    refine zT.step ct_X6_text_ok ?_
    refine And.intro ⟨by decide, _, rfl⟩ ?_
    refine zT.step ct_X6_text_ok ?_
    refine zT.step ct_X6_text_ok ?_
    refine And.intro ⟨by decide, _, rfl⟩ ?_
    refine zT.step ct_X6_text_ok ?_
    refine And.intro ⟨by decide, _, rfl⟩ ?_
    refine zT.step ct_X6_text_ok ?_
    refine Exists.intro m (And.intro ⟨hm, by decide, 6, rfl, h, by decide⟩ ?_)
    refine zT.step ct_X6_text_ok ?_
    refine And.intro ⟨by omega, by decide, _, rfl⟩ (zF.use (rd h) ?_)
    refine zT.step ct_X6_text_ok ?_
    refine zT.step ct_X6_text_ok ?_
    refine zT.step ct_X6_text_ok ?_
    refine zT.step ct_X6_text_ok ?_
    refine And.intro (fun q => ?_) (fun q => ?_)
    · have q : (bif bad then nI fb else -1) = -1 := q
      have hg : bad = false := by
        cases bad with
        | false => rfl
        | true =>
          have q : nI fb = -1 := q
          have := nI_pos (n := fb) (by omega)
          rw [q] at this
          exact absurd (by decide) this
      subst hg
      refine zT.step ct_X6_text_ok ?_
      refine zT.step ct_X6_text_ok ?_
      refine And.intro ⟨by decide, _, rfl⟩ ?_
      refine zT.step ct_X6_text_ok ?_
      refine zT.step ct_X6_text_ok ?_
      refine And.intro ⟨by decide, _, rfl⟩ ?_
      refine zT.step ct_X6_text_ok ?_
      refine zT.step ct_X6_text_ok ?_
      refine zT.step ct_X6_text_ok ?_
      refine And.intro ⟨by decide, _, rfl⟩ ?_
      refine zT.step ct_X6_text_ok ?_
      refine zT.step ct_X6_text_ok ?_
      refine And.intro ⟨by decide, _, rfl⟩ ?_
      refine zT.step ct_X6_text_ok ?_
      refine And.intro ⟨by decide, _, rfl⟩ ?_
      refine zT.step ct_X6_text_ok ?_
      refine zT.step ct_X6_text_ok ?_
      refine zT.step ct_X6_text_ok ?_
      refine And.intro ?_ (And.intro rfl ⟨some (16 + 3 * m), ?_⟩)
      · show some (Value.int (z_up ud 1 3 (ud 1 3 + 1) 1 3 - 1)) = _
        rw [z_up_s, u13 h, nI_1, nI_pred]
        rfl
      · show mm (z_up ud 1 3 (ud 1 3 + 1)) τ _ = _
        rw [u13 h, nI_1]
        rfl
    · have q : ¬ (bif bad then nI fb else -1) = -1 := q
      have hg : bad = true := by
        cases bad with
        | true => rfl
        | false => exact absurd rfl q
      subst hg
      refine zT.step ct_X6_text_ok ?_
      refine zT.step ct_X6_text_ok ?_
      refine zT.step ct_X6_text_ok ?_
      refine zT.step ct_X6_text_ok ?_
      exact And.intro rfl (And.intro rfl ⟨_, rfl⟩)
  · have h : ¬ σ 1 3 < 6 := h
    rw [hm] at h
    have h : m = 6 := by
      rcases Nat.lt_or_ge m 6 with q | q
      · exact absurd (nI_lt q (by decide)) h
      · omega
    rw [if_pos h, if_pos h]
    refine zT.step ct_X6_text_ok ?_
    refine zT.step ct_X6_text_ok ?_
    exact And.intro rfl (And.intro rfl ⟨r, rfl⟩)
