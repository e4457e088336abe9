/-! ===== best ===== -/
/-- the first of the greatest -/
def mxx (ok : Nat → Bool) (v : Nat → Nat) : Nat → Option Nat
  | 0 => none
  | k + 1 => if (ok k && (mxx ok v k).elim true (fun j => decide (v j < v k))) = true then some k else mxx ok v k
theorem mxx_some {ok : Nat → Bool} {v : Nat → Nat} : ∀ {N j : Nat}, mxx ok v N = some j → j < N ∧ ok j = true
  | 0, j, h => by cases h
  | N + 1, j, h => by
    unfold mxx at h
    split at h
    · rename_i q
      cases h
      rw [Bool.and_eq_true] at q
      exact ⟨by omega, q.1⟩
    · have := mxx_some h
      exact ⟨by omega, this.2⟩
theorem mxx_none {ok : Nat → Bool} {v : Nat → Nat} : ∀ {N : Nat}, mxx ok v N = none → ∀ i, i < N → ok i = false
  | 0, _, i, hi => absurd hi (Nat.not_lt_zero _)
  | N + 1, h, i, hi => by
    unfold mxx at h
    split at h
    · cases h
    · rename_i q
      by_cases e : i = N
      · subst e
        rw [h] at q
        revert q
        cases ok i <;> simp
      · exact mxx_none h i (by omega)
theorem mxx_stay {ok : Nat → Bool} {v : Nat → Nat} {s : Nat} : ∀ {e : Nat}, s ≤ e → (∀ m, s ≤ m → m < e → ok m = true → ∃ j, mxx ok v s = some j ∧ v m ≤ v j) → mxx ok v e = mxx ok v s
  | 0, h, _ => by
    have : s = 0 := by omega
    rw [this]
  | e + 1, h, q => by
    by_cases g : s = e + 1
    · rw [g]
    · have ih := mxx_stay (e := e) (by omega) (fun m h1 h2 h3 => q m h1 (by omega) h3)
      show (if (ok e && (mxx ok v e).elim true (fun j => decide (v j < v e))) = true then some e else mxx ok v e) = mxx ok v s
      rw [ih, if_neg]
      intro z
      rw [Bool.and_eq_true] at z
      obtain ⟨j, j1, j2⟩ := q e (by omega) (by omega) z.1
      rw [j1] at z
      have := of_decide_eq_true z.2
      omega
def vB (A : LV) (mu : Bool) (d : Nat → Nat) : Bool := lw A d && (!mu || al (fun f => decide (A.ow f = 0) || decide (A.ow f = d f)) A.n)
def vv (A : LV) (d : Nat → Nat) : Nat := sm (fun f => A.wt (d f) f) A.n
theorem lw_pre {A : LV} {d : Nat → Nat} : lw A d = true ↔ ∀ a b, a < A.n → b < a → bad A d a b = false := by
  unfold lw
  rw [al_iff]
  constructor
  · intro h a b ha hb
    have := al_iff.mp (h a ha) b hb
    simpa using this
  · intro h a ha
    rw [al_iff]
    intro b hb
    rw [h a b ha hb]; rfl
theorem vB_iff {A : LV} {mu : Bool} {d : Nat → Nat} : vB A mu d = true ↔ (∀ a b, a < A.n → b < a → bad A d a b = false) ∧ (mu = true → ∀ f, f < A.n → A.ow f = 0 ∨ A.ow f = d f) := by
  unfold vB
  rw [Bool.and_eq_true, lw_pre]
  refine and_congr Iff.rfl ?_
  cases mu
  · simp
  · simp only [Bool.not_true, Bool.false_or, al_iff, Bool.or_eq_true, decide_eq_true_eq, true_implies]
def gm (A : LV) (f : Nat) : Nat := if f < A.n then gw A f A.p else 0
def wfr (A : LV) : Nat → Nat
  | 0 => 0
  | j + 1 => wfr A j + gm A (5 - j)
theorem gm_le {A : LV} (w : WF A) (f : Nat) : gm A f ≤ 99 := by
  unfold gm
  split
  · rename_i h; exact gw_le w h (Nat.le_refl _)
  · omega
theorem wfr_le {A : LV} (w : WF A) : ∀ j, wfr A j ≤ 99 * j
  | 0 => Nat.le_refl _
  | j + 1 => by
    have := wfr_le w j
    have := gm_le w (5 - j)
    show wfr A j + gm A (5 - j) ≤ _
    omega
theorem gw_ge (A : LV) (f : Nat) : ∀ {k q : Nat}, q < k → A.wo q f ≤ gw A f k
  | 0, q, h => absurd h (Nat.not_lt_zero _)
  | k + 1, q, h => by
    show _ ≤ max (gw A f k) (A.wo k f)
    by_cases e : q = k
    · subst e; omega
    · have := gw_ge A f (k := k) (q := q) (by omega)
      omega
theorem wt_gm {A : LV} {o f : Nat} (ho : o ≤ A.p) (hf : f < A.n) : A.wt o f ≤ gm A f := by
  unfold LV.wt gm
  rw [if_pos hf]
  split
  · omega
  · exact gw_ge A f (by omega)
theorem vv_le {A : LV} (w : WF A) {d : Nat → Nat} (hd : ∀ g, g < A.n → d g ≤ A.p) : ∀ (r f : Nat), f + r = A.n → vv A d ≤ sm (fun g => A.wt (d g) g) f + wfr A (6 - f)
  | 0, f, h => by
    have : f = A.n := by omega
    subst this
    unfold vv; omega
  | r + 1, f, h => by
    have hn := w.n6
    have ih := vv_le w hd r (f + 1) (by omega)
    have e1 : sm (fun g => A.wt (d g) g) (f + 1) = sm (fun g => A.wt (d g) g) f + A.wt (d f) f := rfl
    have e2 : 6 - f = (6 - (f + 1)) + 1 := by omega
    have e3 : wfr A (6 - f) = wfr A (6 - (f + 1)) + gm A f := by
      rw [e2]
      show wfr A (6 - (f + 1)) + gm A (5 - (6 - (f + 1))) = _
      rw [show 5 - (6 - (f + 1)) = f by omega]
    have := wt_gm (hd f (by omega)) (show f < A.n by omega)
    omega
theorem vv_lt {A : LV} (w : WF A) {d : Nat → Nat} (hd : ∀ g, g < A.n → d g ≤ A.p) : vv A d ≤ 594 := by
  have h1 := vv_le w hd A.n 0 (by omega)
  rw [show 6 - 0 = 6 from rfl] at h1
  have := wfr_le w 6
  have : sm (fun g => A.wt (d g) g) 0 = 0 := rfl
  omega
theorem c_shCan {t A μ} (h : CR t A μ) (w : WF A) {mu : Bool} (hm : μ.1 24 1 = bI mu) {d : Nat → Nat} {f o : Nat} (hf : f < A.n) (ho : o ≤ A.p) (hd : ∀ g, g < f → μ.1 25 g = nI (cl (d g))) (hl : ∀ g, g < f → d g ≤ A.p) : Sharing_canHave t (nI f) (nI (cl o)) μ = some ((!mu || (decide (A.ow f = 0) || decide (A.ow f = o))) && al (fun g => !(A.one (d g) o && A.br g f)) f) := by
  have hn := w.n6
  have hp := w.p3
  have o1 := w.owl hf
  have o2 := cl_lt o1 hp
  have o3 := cl_lt ho hp
  have e9 : (nI (cl (A.ow f)) = nI 9) = (A.ow f = 0) := by rw [nI_eq (by omega) (by omega), cl_9 o1 hp]
  have eo : (nI (cl (A.ow f)) = nI (cl o)) = (A.ow f = o) := by rw [nI_eq (by omega) (by omega), cl_inj o1 ho hp]
  unfold Sharing_canHave
  rw [c_ownerOf h w hf]
  simp only [Option.bind_some, ldZ_b hm, li_9, ne_eq, e9, eo]
  have c8 : (if mu = true then (if ¬ A.ow f = 0 then some (decide (¬ A.ow f = o)) else some false) else some false) = some (!(!mu || (decide (A.ow f = 0) || decide (A.ow f = o)))) := by
    cases mu
    · rfl
    · by_cases g1 : A.ow f = 0 <;> by_cases g2 : A.ow f = o <;> simp [g1, g2]
  rw [c8]
  cases hc : (!mu || (decide (A.ow f = 0) || decide (A.ow f = o)))
  · rfl
  simp only [Bool.not_true, Option.bind_some, Bool.false_eq_true, if_false, Bool.true_and]
  have st : ∀ g, g < f → Sharing_canHave_s1 (nI f) μ t (nI (cl o)) (nI g) = if (A.one (d g) o && A.br g f) = true then some (.inr (.inr false)) else some (.inl (nI (g + 1))) := fun g hg => by
    have l1 := hl g hg
    simp only [Sharing_canHave_s1, if_pos (nI_lt hg (show f < 2 ^ 31 by omega)), li_6, Option.bind_some, decide_eq_true (nI_lt (show g < 6 by omega) (show 6 < 2 ^ 31 by omega)), if_true, ldA_n (show g < 6 by omega) (show 6 ≤ 5000 by omega), hd g hg, c_asOne h w l1 ho, c_bars h w (show g < 6 by omega) (show f < 6 by omega), li_1, nI_add]
    cases A.one (d g) o <;> cases A.br g f <;> simp
  have k1 := lp_find (step := Sharing_canHave_s1 (nI f) μ t (nI (cl o))) (fun k => nI k) (fun g => A.one (d g) o && A.br g f) (.inl ()) (fun _ => .inr false) f (by omega) (fun k hk hq => by rw [st k hk, if_neg (by rw [hq]; decide)]) (fun k hk hq => by rw [st k hk, if_pos hq]) (by
    simp only [Sharing_canHave_s1, if_neg (nI_nlt (Nat.le_refl f) (show f < 2 ^ 31 by omega)), Option.bind_some, Bool.false_eq_true, if_false])
  rw [show (nI 0 : Int32) = 0 from rfl] at k1
  rcases k1 with ⟨k, hk, hq, _, e⟩ | ⟨hall, e⟩
  · rw [e, al_ff hk (by rw [hq]; rfl)]; rfl
  · rw [e, al_iff.mpr (fun k hk => by rw [hall k hk]; rfl)]; rfl
/-- what the search may write; what stays while it goes on -/
def pT (a j : Nat) : Prop := (a = 24 ∧ j = 0) ∨ a = 25 ∨ a = 26
def TS (t : Nat) (A : LV) (mu : Bool) (μ : MI) : Prop := CR t A μ ∧ μ.1 24 1 = bI mu ∧ ∀ f, f ≤ 6 → μ.1 27 f = nI (wfr A (6 - f))
theorem TS.fr {t A mu μ μ'} (h : TS t A mu μ) (ht : t + 6 < 24) (g : ag pT μ μ') : TS t A mu μ' :=
  ⟨h.1.tg g (fun a j z1 z2 z3 => by unfold pT at z3; omega), (g.1 _ _ (by unfold pT; omega)).trans h.2.1, fun f hf => (g.1 _ _ (by unfold pT; omega)).trans (h.2.2 f hf)⟩
def SS (A : LV) (o : Option Nat) (μ : MI) : Prop := μ.1 24 0 = o.elim (-1) (fun j => nI (vv A (pfx (A.p + 1) A.n j))) ∧ ∀ j, o = some j → ∀ g, g < A.n → μ.1 26 g = nI (cl (pfx (A.p + 1) A.n j g))
def bO (A : LV) (mu : Bool) (m : Nat) : Bool := vB A mu (pfx (A.p + 1) A.n m)
def bV (A : LV) (m : Nat) : Nat := vv A (pfx (A.p + 1) A.n m)
theorem pfx_p {A : LV} (f B g : Nat) : pfx (A.p + 1) f B g ≤ A.p := by
  have := pfx_lt (P := A.p + 1) (f := f) (B := B) (g := g) (by omega)
  omega
theorem c_keep {A : LV} (w : WF A) {mu : Bool} {μ : MI} {B : Nat} (hd : ∀ g, g < A.n → μ.1 25 g = nI (cl (pfx (A.p + 1) A.n B g))) (ok : bO A mu B = true) (hs : SS A (mxx (bO A mu) (bV A) B) μ) : ∃ μ', Sharing_keepIfBetter (nI (bV A B)) μ = some μ' ∧ SS A (mxx (bO A mu) (bV A) (B + 1)) μ' ∧ ag (fun a j => (a = 24 ∧ j = 0) ∨ a = 26) μ μ' := by
  have hn := w.n6
  have v1 : bV A B ≤ 594 := vv_lt w (fun g _ => pfx_p _ _ _)
  have em : mxx (bO A mu) (bV A) (B + 1) = if (mxx (bO A mu) (bV A) B).elim true (fun j => decide (bV A j < bV A B)) = true then some B else mxx (bO A mu) (bV A) B := by
    show (if (bO A mu B && _) = true then _ else _) = _
    rw [ok, Bool.true_and]
  unfold Sharing_keepIfBetter
  have lt : (μ.1 24 0 < nI (bV A B)) ↔ (mxx (bO A mu) (bV A) B).elim true (fun j => decide (bV A j < bV A B)) = true := by
    rw [hs.1]
    rcases mxx (bO A mu) (bV A) B with _ | j
    · refine ⟨fun _ => rfl, fun _ => ?_⟩
      show (-1 : Int32) < nI (bV A B)
      rw [Int32.lt_iff_toInt_lt, nI_toInt (by omega), show (-1 : Int32).toInt = -1 from by decide]
      omega
    · have v2 : bV A j ≤ 594 := vv_lt w (fun g _ => pfx_p _ _ _)
      show nI (bV A j) < nI (bV A B) ↔ decide (bV A j < bV A B) = true
      rw [nI_ltI (by omega) (by omega), decide_eq_true_eq]
  rw [em]
  by_cases g : (mxx (bO A mu) (bV A) B).elim true (fun j => decide (bV A j < bV A B)) = true
  · rw [if_pos (lt.mpr g), if_pos g]
    have y6 := fun m a b => acp_n (n := 6) (by omega) m a b
    rw [show (nI 6 : Int32) = 6 from rfl] at y6
    simp only [stF, Option.bind_some, y6]
    refine ⟨_, rfl, ⟨?_, fun j hj f hf => ?_⟩, ⟨fun a j q => ?_, rfl⟩⟩
    · rw [sa_ne (by omega), si_v, if_pos ⟨rfl, rfl⟩]; rfl
    · cases hj
      rw [sa_at, if_pos (by omega), si_ne (by omega)]
      exact hd f hf
    · rw [sa_ne (by omega), si_v, if_neg (by omega)]
  · rw [if_neg (fun q => g (lt.mp q)), if_neg g]
    exact ⟨μ, rfl, hs, ag_rf _ _⟩
theorem c_try {A : LV} (w : WF A) {t : Nat} (ht : t + 6 < 24) (mu : Bool) : ∀ (r fuel f B x : Nat) (μ : MI), r < fuel → f + r = A.n → TS t A mu μ → (∀ g, g < f → μ.1 25 g = nI (cl (pfx (A.p + 1) f B g))) → (∀ a b, a < f → b < a → bad A (pfx (A.p + 1) f B) a b = false) → (mu = true → ∀ g, g < f → A.ow g = 0 ∨ A.ow g = pfx (A.p + 1) f B g) → x = sm (fun g => A.wt (pfx (A.p + 1) f B g) g) f → SS A (mxx (bO A mu) (bV A) (B * (A.p + 1) ^ r)) μ →
    ∃ μ', Sharing_tryFrom fuel t (nI f) (nI x) μ = some μ' ∧ SS A (mxx (bO A mu) (bV A) ((B + 1) * (A.p + 1) ^ r)) μ' ∧ ag pT μ μ' ∧ ∀ g, g < f → μ'.1 25 g = μ.1 25 g
  | 0, 0, f, B, x, μ, h0, _, _, _, _, _, _, _ => absurd h0 (Nat.not_lt_zero _)
  | 0, fuel + 1, f, B, x, μ, h0, hr, hT, hd, hv, hm, hx, hs => by
    have hn := w.n6
    have hf : f = A.n := by omega
    subst hf
    have ok : bO A mu B = true := vB_iff.mpr ⟨hv, hm⟩
    have ex : x = bV A B := hx
    rw [Nat.pow_zero, Nat.mul_one] at hs
    rw [Nat.pow_zero, Nat.mul_one]
    obtain ⟨μ', e1, e2, e3⟩ := c_keep w hd ok hs
    refine ⟨μ', ?_, e2, ag_mo e3 (fun a j q => by unfold pT; omega), fun g hg => e3.1 _ _ (by omega)⟩
    unfold Sharing_tryFrom
    rw [hT.1.hn]
    have c : (if nI A.n < 0 then some true else if (6 : Int32) ≤ nI A.n then some true else some (decide (nI A.n ≤ nI A.n))) = some true := by
      rw [if_neg (nI_pos (by omega))]
      by_cases g : (6 : Int32) ≤ nI A.n
      · rw [if_pos g]
      · rw [if_neg g, decide_eq_true (nI_le (Nat.le_refl _) (by omega))]
    rw [c, ex]
    simp only [Option.bind_some, if_true, e1]
  | r + 1, 0, f, B, x, μ, h0, _, _, _, _, _, _, _ => absurd h0 (Nat.not_lt_zero _)
  | r + 1, fuel + 1, f, B, x, μ, h0, hr, hT, hd, hv, hm, hx, hs => by
    have hn := w.n6
    have hp := w.p3
    have hf : f < A.n := by omega
    have x1 : x ≤ f * 99 := by
      rw [hx]
      exact sm_le (fun k hk => wt_le w (pfx_p _ _ _) (by omega))
    have wl := wfr_le w (6 - f)
    unfold Sharing_tryFrom
    rw [hT.1.hn]
    have c : (if nI f < 0 then some true else if (6 : Int32) ≤ nI f then some true else some (decide (nI A.n ≤ nI f))) = some false := by
      rw [if_neg (nI_pos (by omega)), if_neg (by rw [li_6]; exact nI_ge (by omega) (by omega)), decide_eq_false (nI_ge hf (by omega))]
    rw [c]
    simp only [Option.bind_some, Bool.false_eq_true, if_false]
    rw [ldA_n (show f < 7 by omega) (by omega), hT.2.2 f (by omega)]
    simp only [Option.bind_some]
    have m0 : (B * (A.p + 1) + 0) * (A.p + 1) ^ r = B * (A.p + 1) ^ (r + 1) := by rw [Nat.add_zero, Nat.pow_succ, Nat.mul_assoc, Nat.mul_comm (A.p + 1)]
    have m1 : (B * (A.p + 1) + (A.p + 1)) * (A.p + 1) ^ r = (B + 1) * (A.p + 1) ^ (r + 1) := by rw [← Nat.succ_mul, Nat.pow_succ, Nat.mul_assoc, Nat.mul_comm (A.p + 1)]
    have pre : ∀ m, B * (A.p + 1) ^ (r + 1) ≤ m → m < (B + 1) * (A.p + 1) ^ (r + 1) → bV A m ≤ x + wfr A (6 - f) := fun m h1 h2 => by
      have := vv_le w (d := pfx (A.p + 1) A.n m) (fun g _ => pfx_p _ _ _) (r + 1) f hr
      have e : sm (fun g => A.wt (pfx (A.p + 1) A.n m g) g) f = x := by
        rw [hx]
        refine sm_cg fun g hg => ?_
        rw [← hr, pfx_rng h1 h2 hg]
      rw [e] at this
      exact this
    by_cases pr : nI x + nI (wfr A (6 - f)) ≤ μ.1 24 0
    · rw [if_pos pr]
      refine ⟨μ, rfl, ?_, ag_rf _ _, fun _ _ => rfl⟩
      rw [mxx_stay (s := B * (A.p + 1) ^ (r + 1)) (Nat.mul_le_mul_right _ (by omega)) (fun m h1 h2 _ => ?_)]
      · exact hs
      · rw [hs.1] at pr
        rcases hj : mxx (bO A mu) (bV A) (B * (A.p + 1) ^ (r + 1)) with _ | j
        · exfalso
          rw [hj] at pr
          have pr : nI x + nI (wfr A (6 - f)) ≤ (-1 : Int32) := pr
          rw [nI_add, Int32.le_iff_toInt_le, nI_toInt (by omega), show (-1 : Int32).toInt = -1 from by decide] at pr
          omega
        · refine ⟨j, rfl, ?_⟩
          rw [hj] at pr
          have v2 : bV A j ≤ 594 := vv_lt w (fun g _ => pfx_p _ _ _)
          have pr : nI x + nI (wfr A (6 - f)) ≤ nI (bV A j) := pr
          rw [nI_add, nI_leI (by omega) (by omega)] at pr
          have := pre m h1 h2
          omega
    · rw [if_neg pr]
      have key := lp_m (step := Sharing_tryFrom_s1 t (nI f) (Sharing_tryFrom fuel) (nI x)) (μ := μ) (fun o s => SS A (mxx (bO A mu) (bV A) ((B * (A.p + 1) + o) * (A.p + 1) ^ r)) s ∧ ag pT μ s ∧ ∀ g, g < f → s.1 25 g = μ.1 25 g) (A.p + 1) (by omega) ⟨by rw [m0]; exact hs, ag_rf _ _, fun _ _ => rfl⟩ (by
        rintro o s ho ⟨s1, s2, s3⟩
        have sT := hT.fr ht s2
        have dig : ∀ m, (B * (A.p + 1) + o) * (A.p + 1) ^ r ≤ m → m < (B * (A.p + 1) + o + 1) * (A.p + 1) ^ r → (∀ g, g < f → pfx (A.p + 1) A.n m g = pfx (A.p + 1) f B g) ∧ pfx (A.p + 1) A.n m f = o := fun m h1 h2 => by
          have e : A.n = f + 1 + r := by omega
          refine ⟨fun g hg => ?_, ?_⟩
          · rw [e, pfx_rng h1 h2 (by omega), pfx_up ho hg]
          · rw [e, pfx_rng h1 h2 (by omega), pfx_last ho]
        have can := c_shCan sT.1 w sT.2.1 (d := pfx (A.p + 1) f B) (o := o) hf (by omega) (fun g hg => (s3 g hg).trans (hd g hg)) (fun g hg => pfx_p _ _ _)
        have x28 : (if nI o = 0 then some 9 else some (nI o - 1)) = some (nI (cl o)) := by
          rcases o with _ | o
          · rfl
          · rw [if_neg (by rw [li_0, nI_eq (by omega) (by omega)]; omega), li_1, pk_sub (by omega)]; rfl
        have nr : s.1 t 1 = nI A.p := sT.1.hp
        unfold Sharing_tryFrom_s1
        simp only []
        rw [nr, if_pos (nI_le (show o ≤ A.p by omega) (by omega)), x28]
        simp only [Option.bind_some]
        rw [can]
        simp only [Option.bind_some]
        cases hc : ((!mu || (decide (A.ow f = 0) || decide (A.ow f = o))) && al (fun g => !(A.one (pfx (A.p + 1) f B g) o && A.br g f)) f)
        · refine ⟨s, ?_, ?_, s2, s3⟩
          · simp only [Bool.false_eq_true, if_false, Option.bind_some, li_1, nI_add]
          · rw [mxx_stay (s := (B * (A.p + 1) + o) * (A.p + 1) ^ r) (Nat.mul_le_mul_right _ (by omega)) (fun m h1 h2 h3 => ?_)]
            · exact s1
            · exfalso
              obtain ⟨d1, d2⟩ := dig m h1 h2
              obtain ⟨v1, v2⟩ := vB_iff.mp h3
              rw [Bool.and_eq_false_iff] at hc
              rcases hc with hc | hc
              · cases hmu : mu
                · rw [hmu] at hc; simp at hc
                · rw [hmu] at hc
                  rcases v2 hmu f hf with z | z
                  · rw [z] at hc; simp at hc
                  · rw [d2] at z
                    rw [z] at hc; simp at hc
              · obtain ⟨g, hg, eg⟩ := al_ex hc
                rw [Bool.not_eq_false', Bool.and_eq_true] at eg
                have := v1 f g hf hg
                unfold bad at this
                rw [d2, d1 g hg, one_sy, eg.1, br_sy w, eg.2] at this
                cases this
        · rw [Bool.and_eq_true] at hc
          obtain ⟨c1, c2⟩ := hc
          have c2 := al_iff.mp c2
          have hst : stA 6 s 25 (nI f) (nI (cl o)) = some (si s 25 f (nI (cl o))) := stA_n (by omega) (by omega)
          have g1 : ag pT μ (si s 25 f (nI (cl o))) := ag_st s2 (Or.inr (Or.inl rfl))
          have gT := hT.fr ht g1
          have pd : ∀ g, g < f + 1 → (si s 25 f (nI (cl o))).1 25 g = nI (cl (pfx (A.p + 1) (f + 1) (B * (A.p + 1) + o) g)) := fun g hg => by
            rw [si_at]
            by_cases e : g = f
            · rw [if_pos e, e, pfx_last ho]
            · rw [if_neg e, s3 g (by omega), hd g (by omega), pfx_up ho (by omega)]
          have pv : ∀ a b, a < f + 1 → b < a → bad A (pfx (A.p + 1) (f + 1) (B * (A.p + 1) + o)) a b = false := fun a b ha hb => by
            unfold bad
            by_cases e : a = f
            · subst e
              rw [pfx_last ho, pfx_up ho hb]
              have := c2 b hb
              rw [one_sy, br_sy w]
              revert this
              cases A.one (pfx (A.p + 1) a B b) o <;> cases A.br b a <;> simp
            · rw [pfx_up ho (show a < f by omega), pfx_up ho (show b < f by omega)]
              exact hv a b (by omega) hb
          have pm : mu = true → ∀ g, g < f + 1 → A.ow g = 0 ∨ A.ow g = pfx (A.p + 1) (f + 1) (B * (A.p + 1) + o) g := fun hmu g hg => by
            by_cases e : g = f
            · subst e
              rw [pfx_last ho]
              rw [hmu] at c1
              simpa using c1
            · rw [pfx_up ho (show g < f by omega)]
              exact hm hmu g (by omega)
          have px : x + A.wt o f = sm (fun g => A.wt (pfx (A.p + 1) (f + 1) (B * (A.p + 1) + o) g) g) (f + 1) := by
            show _ = sm (fun g => A.wt (pfx (A.p + 1) (f + 1) (B * (A.p + 1) + o) g) g) f + A.wt (pfx (A.p + 1) (f + 1) (B * (A.p + 1) + o) f) f
            rw [pfx_last ho, hx]
            congr 1
            exact sm_cg fun g hg => by rw [pfx_up ho hg]
          have ss : SS A (mxx (bO A mu) (bV A) ((B * (A.p + 1) + o) * (A.p + 1) ^ r)) (si s 25 f (nI (cl o))) := by
            refine ⟨?_, fun j hj g hg => ?_⟩
            · rw [si_ne (by omega)]; exact s1.1
            · rw [si_ne (by omega)]; exact s1.2 j hj g hg
          obtain ⟨s', e1, e2, e3, e4⟩ := c_try w ht mu r fuel (f + 1) (B * (A.p + 1) + o) (x + A.wt o f) (si s 25 f (nI (cl o))) (by omega) (by omega) gT pd pv pm px ss
          have e1' : Sharing_tryFrom fuel t (nI f + 1) (nI x + nI (A.wt o f)) (si s 25 f (nI (cl o))) = some s' := by rw [li_1, nI_add, nI_add]; exact e1
          rw [hst]
          simp only [if_true, Option.bind_some]
          rw [c_worthTo gT.1 w (show o ≤ A.p by omega) hf]
          simp only [Option.bind_some]
          rw [e1']
          refine ⟨s', ?_, ?_, ag_tr g1 e3, fun g hg => ?_⟩
          · simp only [Option.bind_some, li_1, nI_add]
          · rw [show B * (A.p + 1) + (o + 1) = B * (A.p + 1) + o + 1 by omega]; exact e2
          · rw [e4 g (by omega), si_at, if_neg (by omega), s3 g hg]) (by
        rintro s ⟨s1, s2, s3⟩
        have nr : s.1 t 1 = nI A.p := (hT.fr ht s2).1.hp
        unfold Sharing_tryFrom_s1
        simp only []
        rw [nr, if_neg (nI_ge (show A.p < A.p + 1 by omega) (by omega))])
      obtain ⟨s, o1, o2, o3, o4⟩ := key
      rw [o1]
      rw [m1] at o2
      exact ⟨s, rfl, o2, o3, o4⟩
