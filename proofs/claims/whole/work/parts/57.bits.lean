/-! Int32 by its bits (pasted from the kit's laws, to paste); shadows -/
def bt (x : Int32) (i : Nat) : Bool := x.toBitVec.getLsbD i
theorem b_ext {x y : Int32} (h : ∀ i, i < 32 → bt x i = bt y i) : x = y := Int32.toBitVec_inj.mp (BitVec.eq_of_getLsbD_eq (fun i hi => h i hi))
theorem b_or (x y : Int32) (i : Nat) : bt (x ||| y) i = (bt x i || bt y i) := by unfold bt; rw [Int32.toBitVec_or, BitVec.getLsbD_or]
theorem b_and (x y : Int32) (i : Nat) : bt (x &&& y) i = (bt x i && bt y i) := by unfold bt; rw [Int32.toBitVec_and, BitVec.getLsbD_and]
theorem b_xor (x y : Int32) (i : Nat) : bt (x ^^^ y) i = (bt x i ^^ bt y i) := by unfold bt; rw [Int32.toBitVec_xor, BitVec.getLsbD_xor]
theorem b_m1 : ∀ i, i < 32 → bt (-1) i = true := by decide +kernel
theorem b_0 (i : Nat) : bt 0 i = false := BitVec.getLsbD_zero
theorem b_sl : ∀ n, n < 32 → ((nI n &&& 31).toBitVec.smod 32).toNat = n := by decide +kernel
theorem b_shl (n : Nat) (hn : n < 32) (x : Int32) {i : Nat} (hi : i < 32) : bt (x <<< (nI n &&& 31)) i = (decide (n ≤ i) && bt x (i - n)) := by
  unfold bt
  rw [Int32.toBitVec_shiftLeft]
  show (x.toBitVec <<< ((nI n &&& 31).toBitVec.smod 32).toNat).getLsbD i = _
  rw [b_sl n hn, BitVec.getLsbD_shiftLeft]
  rcases Nat.lt_or_ge i n with h | h
  · simp [h, Nat.not_le.mpr h]
  · simp [hi, h, Nat.not_lt.mpr h]
theorem b_sshr (n : Nat) (hn : n < 32) (x : Int32) {i : Nat} (hi : i < 32) : bt (x >>> (nI n &&& 31)) i = if n + i < 32 then bt x (n + i) else bt x 31 := by
  unfold bt
  rw [Int32.toBitVec_shiftRight]
  show (x.toBitVec.sshiftRight ((nI n &&& 31).toBitVec.smod 32).toNat).getLsbD i = _
  rw [b_sl n hn, BitVec.getLsbD_sshiftRight, BitVec.msb_eq_getLsbD_last]
  simp [hi]
theorem b_1 : ∀ i, i < 32 → bt 1 i = decide (i = 0) := by decide +kernel
theorem b_w {n i : Nat} (hn : n < 32) (hi : i < 32) : bt (1 <<< (nI n &&& 31)) i = decide (i = n) := by
  rw [b_shl n hn 1 hi, b_1 _ (by omega), ← Bool.decide_and, decide_eq_decide]
  omega
theorem b_bit {x : Int32} {c : Nat} (hc : c < 32) : x >>> (nI c &&& 31) &&& 1 = f_b (bt x c) := by
  refine b_ext fun i hi => ?_
  rw [b_and, b_sshr c hc x hi, b_1 i hi]
  by_cases h : i = 0
  · subst h
    rw [if_pos (by omega)]
    cases bt x c <;> rfl
  · rw [decide_eq_false h, Bool.and_false]
    cases bt x c with
    | true => show false = bt 1 i; rw [b_1 i hi, decide_eq_false h]
    | false => show false = bt 0 i; rw [b_0]
theorem b_is1 {x : Int32} {c : Nat} (hc : c < 32) : (x >>> (nI c &&& 31) &&& 1 = 1) ↔ bt x c = true := by
  rw [b_bit hc]
  cases bt x c <;> decide
theorem b_is0 {x : Int32} {c : Nat} (hc : c < 32) : (x >>> (nI c &&& 31) &&& 1 = 0) ↔ bt x c = false := by
  rw [b_bit hc]
  cases bt x c <;> decide
theorem due_b {hd : Int32} {du : Nat → Int32} {i : Nat} (hi : i < 32) : f_due hd du i = bif bt hd i then 0 else du i := by
  unfold f_due
  cases h : bt hd i with
  | true => rw [if_pos ((b_is1 hi).mpr h)]; rfl
  | false => rw [if_neg (fun q => by rw [(b_is1 hi).mp q] at h; cases h)]; rfl
/-! the reference's shadow -/
def r_q (c k mo : Int32) : Int32 := if mo = 0 then c + k else c - k
def r_sh (c mo : Int32) : Nat → Int32
  | 0 => 0
  | k + 1 => r_sh c mo k ||| (if 0 ≤ r_q c (nI (k + 1)) mo ∧ r_q c (nI (k + 1)) mo ≤ 29 then 1 <<< (r_q c (nI (k + 1)) mo &&& 31) else 0)
theorem sh_step0 : ∀ c, c < 30 → ∀ k, k < 30 → f_sh (nI c) (nI (k + 1)) 0 = f_sh (nI c) (nI k) 0 ||| (if 0 ≤ r_q (nI c) (nI (k + 1)) 0 ∧ r_q (nI c) (nI (k + 1)) 0 ≤ 29 then 1 <<< (r_q (nI c) (nI (k + 1)) 0 &&& 31) else 0) := by decide +kernel
theorem sh_step1 : ∀ c, c < 30 → ∀ k, k < 30 → f_sh (nI c) (nI (k + 1)) 1 = f_sh (nI c) (nI k) 1 ||| (if 0 ≤ r_q (nI c) (nI (k + 1)) 1 ∧ r_q (nI c) (nI (k + 1)) 1 ≤ 29 then 1 <<< (r_q (nI c) (nI (k + 1)) 1 &&& 31) else 0) := by decide +kernel
theorem sh_zero : ∀ c, c < 30 → f_sh (nI c) (nI 0) 0 = 0 ∧ f_sh (nI c) (nI 0) 1 = 0 := by decide +kernel
theorem sh_own : ∀ c, c < 30 → ∀ k, k < 30 → bt (f_sh (nI c) (nI k) 0) c = false ∧ bt (f_sh (nI c) (nI k) 1) c = false := by decide +kernel
theorem r_sh_eq {c : Nat} (hc : c < 30) {mo : Int32} (hm : mo = 0 ∨ mo = 1) : ∀ n, n < 30 → r_sh (nI c) mo n = f_sh (nI c) (nI n) mo := by
  intro n
  induction n with
  | zero => intro _; rcases hm with rfl | rfl; exact (sh_zero c hc).1.symm; exact (sh_zero c hc).2.symm
  | succ n ih =>
    intro hn
    show r_sh (nI c) mo n ||| _ = _
    rw [ih (by omega)]
    rcases hm with rfl | rfl
    · exact (sh_step0 c hc n (by omega)).symm
    · exact (sh_step1 c hc n (by omega)).symm
theorem t_shadow {X : zXs} {d c n : Nat} {L : List zSh} {μ : zMem} {mo : Int32} (hd : 1 ≤ d) (hc : c < 30) (hn : n < 30) (hm : mo = 0 ∨ mo = 1) : zF X d m_X7_shadow [.int (nI c), .int (nI n), .int mo] L μ (some (.int (f_sh (nI c) (nI n) mo))) μ := by
  have lp : ∀ (m k : Nat), k + m = n → zT X d m_X7_shadow (fun w L2 μ2 => w = some (.int (f_sh (nI c) (nI n) mo)) ∧ L2 = L ∧ μ2 = μ) 0 0 5 [some (.int (nI c)), some (.int (nI n)), some (.int mo), some (.int (r_sh (nI c) mo k)), some (.int (nI (k + 1))), none] [] L μ := by
    intro m
    induction m with
    | zero =>
      intro k hk
      have hk : k = n := by omega
      subst hk
      refine zT.step ct_X7_shadow_ok ?_
      refine zT.step ct_X7_shadow_ok ?_
      refine zT.step ct_X7_shadow_ok ?_
      refine And.intro (fun _ => ?_) (fun h => absurd (nI_lt (Nat.lt_succ_self k) (by omega)) h)
      refine zT.step ct_X7_shadow_ok ?_
      refine zT.step ct_X7_shadow_ok ?_
      exact And.intro (by rw [r_sh_eq hc hm k hn]) (And.intro rfl rfl)
    | succ m ih =>
      intro k hk
      have nxt : ∀ q : Int32, q = r_q (nI c) (nI (k + 1)) mo → zT X d m_X7_shadow (fun w L2 μ2 => w = some (.int (f_sh (nI c) (nI n) mo)) ∧ L2 = L ∧ μ2 = μ) 0 0 26 [some (.int (nI c)), some (.int (nI n)), some (.int mo), some (.int (r_sh (nI c) mo k)), some (.int (nI (k + 1))), none] [.int q] L μ := by
        intro q hq
        have put : ∀ v : Int32, r_sh (nI c) mo (k + 1) = r_sh (nI c) mo k ||| v → zT X d m_X7_shadow (fun w L2 μ2 => w = some (.int (f_sh (nI c) (nI n) mo)) ∧ L2 = L ∧ μ2 = μ) 0 0 50 [some (.int (nI c)), some (.int (nI n)), some (.int mo), some (.int (r_sh (nI c) mo k)), some (.int (nI (k + 1))), some (.int q)] [.int v, .int (r_sh (nI c) mo k)] L μ := by
          intro v hv
          refine zT.step ct_X7_shadow_ok ?_
          refine zT.step ct_X7_shadow_ok ?_
          refine zT.step ct_X7_shadow_ok ?_
          refine zT.step ct_X7_shadow_ok ?_
          refine zT.drop 5 ?_
          show zT X d m_X7_shadow _ 0 0 5 [some (.int (nI c)), some (.int (nI n)), some (.int mo), some (.int (r_sh (nI c) mo k ||| v)), some (.int (nI (k + 1) + 1)), none] [] L μ
          rw [nI_1, ← hv]
          exact ih (k + 1) (by omega)
        have hi := t_inI (X := X) (d := d - 1) (L := L) (μ := μ) (x := q) (lo := 0) (hi := 29) (a := 0) (b := 29) rfl rfl
        refine zT.step ct_X7_shadow_ok ?_
        refine zT.step ct_X7_shadow_ok ?_
        refine zT.step ct_X7_shadow_ok ?_
        refine zT.step ct_X7_shadow_ok ?_
        refine zT.step ct_X7_shadow_ok ?_
        refine zT.step ct_X7_shadow_ok ?_
        refine zT.step ct_X7_shadow_ok ?_
        refine And.intro hd (zF.use hi ?_)
        refine zT.step ct_X7_shadow_ok ?_
        refine And.intro (fun h => ?_) (fun h => ?_)
        · have h := of_decide_eq_false (fb0 h)
          rw [hq] at h
          refine zT.step ct_X7_shadow_ok ?_
          exact put 0 (by show r_sh (nI c) mo k ||| (if _ then _ else _) = _; rw [if_neg h])
        · have h := of_decide_eq_true (fb1 h)
          rw [hq] at h
          refine zT.step ct_X7_shadow_ok ?_
          refine zT.step ct_X7_shadow_ok ?_
          refine zT.step ct_X7_shadow_ok ?_
          refine zT.step ct_X7_shadow_ok ?_
          exact put _ (by show r_sh (nI c) mo k ||| (if _ then _ else _) = _; rw [if_pos h, hq])
      refine zT.step ct_X7_shadow_ok ?_
      refine zT.step ct_X7_shadow_ok ?_
      refine zT.step ct_X7_shadow_ok ?_
      refine And.intro (fun h => ?_) (fun _ => ?_)
      · have h : nI n < nI (k + 1) := h
        have := (nI_ltI (by omega) (by omega)).mp h
        omega
      refine zT.step ct_X7_shadow_ok ?_
      refine zT.step ct_X7_shadow_ok ?_
      refine And.intro (fun h => ?_) (fun h => ?_)
      · have h : mo = 0 := h
        refine zT.step ct_X7_shadow_ok ?_
        refine zT.step ct_X7_shadow_ok ?_
        refine zT.step ct_X7_shadow_ok ?_
        exact nxt _ (by unfold r_q; rw [if_pos h])
      · have h : ¬ mo = 0 := h
        refine zT.step ct_X7_shadow_ok ?_
        refine zT.step ct_X7_shadow_ok ?_
        refine zT.step ct_X7_shadow_ok ?_
        refine zT.step ct_X7_shadow_ok ?_
        exact nxt _ (by unfold r_q; rw [if_neg h])
  refine zF.of mk_X7_shadow rfl ?_
  refine zT.step ct_X7_shadow_ok ?_
  refine zT.step ct_X7_shadow_ok ?_
  refine zT.step ct_X7_shadow_ok ?_
  refine zT.step ct_X7_shadow_ok ?_
  exact lp n 0 (by omega)
