/-! ===== game, value: solveState ===== -/
def gN (A : LV) (s p k : Nat) : Nat := sm (fun f => if gK A s p f = true then 1 else 0) k
theorem gN_le (A : LV) (s p k : Nat) : gN A s p k ≤ k := by
  have := sm_le (f := fun f => if gK A s p f = true then 1 else 0) (c := 1) (n := k) (fun k _ => by show (if gK A s p k = true then 1 else 0) ≤ 1; split <;> omega)
  unfold gN; omega
theorem gN_0 (A : LV) (s p : Nat) : ∀ k, (gN A s p k = 0) ↔ al (fun f => !(gK A s p f)) k = true
  | 0 => ⟨fun _ => rfl, fun _ => rfl⟩
  | k + 1 => by
    show (gN A s p k + (if gK A s p k = true then 1 else 0) = 0) ↔ (al (fun f => !(gK A s p f)) k && !(gK A s p k)) = true
    rw [Bool.and_eq_true, ← gN_0 A s p k]
    cases gK A s p k <;> simp
theorem gB_b {A : LV} (w : WF A) {s p k : Nat} (hs : s < 729) (hp : p < 2) : -6 ≤ gB A s p k ∧ gB A s p k ≤ 6 := by
  have := lmx_b (ok := gK A s p) (v := gV A s p) (c := 6) (by omega) (n := k) (fun j _ hq => (gV_b w hs hp hq).2)
  unfold gB
  split
  · omega
  · unfold gu; split <;> omega
theorem gu_v {p : Nat} (hp : p < 2) (z : Int) : gu (1 - p) z + (if p = 0 then 1 else -1) = gu p (1 - z) := by
  unfold gu
  rcases (by omega : p = 0 ∨ p = 1) with rfl | rfl
  · simp; omega
  · simp; omega
theorem m_solveS1 {A : LV} {m : MI} {s p f : Nat} (h : MR A m) (w : WF A) (d : gD s m) (hs : s < 729) (hp2 : p < 2) (hf : f < A.n) (H : gK A s p f = true → m.1 79 (2 * gt' s p f + (1 - p)) = bI (gS A (gt' s p f) (1 - p)).isSome ∧ m.1 80 (2 * gt' s p f + (1 - p)) = iI (gu (1 - p) (gL A (gt' s p f) (1 - p)))) : M_solveState_s1 m (nI p) (nI s) (nI (3 ^ f), gW A s p f, iI (gB A s p f), nI (gN A s p f), nI f) = some (.inl (nI (3 ^ (f + 1)), gW A s p (f + 1), iI (gB A s p (f + 1)), nI (gN A s p (f + 1)), nI (f + 1))) := by
  have hn := w.n6
  have n1 := gN_le A s p f
  have u3 : nI (3 ^ f) * 3 = nI (3 ^ (f + 1)) := by rw [li_3, pk_mul, ← Nat.pow_succ]
  have f1 : nI f + 1 = nI (f + 1) := by rw [li_1, nI_add]
  unfold M_solveState_s1
  simp only []
  rw [h.hn, if_pos (nI_lt hf (show A.n < 2 ^ 31 by omega)), m_canTake h w d hp2 hf]
  simp only [Option.bind_some, u3, f1]
  by_cases q : gK A s p f = true
  · have q' : cn A (gM A s p) (gF A s) f = true := q
    obtain ⟨t0, _⟩ := gt_f w hs hp2 q
    obtain ⟨h1, h2⟩ := H q
    have ix : (2 : Int32) * (nI s + nI (3 ^ f) * (nI p + 1)) + 1 - nI p = nI (2 * gt' s p f + (1 - p)) := by
      rw [li_2, li_1, nI_add, pk_mul, nI_add, pk_mul, nI_add, pk_sub (by omega)]
      unfold gt'
      congr 1
      omega
    have pp : (nI p = 0) = (p = 0) := by rw [li_0]; exact propext (nI_eq (by omega) (by omega))
    have nn : (nI (gN A s p f) = 0) = (al (fun f => !(gK A s p f)) f = true) := by rw [li_0]; exact propext ((nI_eq (by omega) (by omega)).trans (gN_0 A s p f))
    have wv : (if gW A s p f = true then some true else (ldB 1458 m 79 (nI (2 * gt' s p f + (1 - p)))).bind fun x40 => some (!x40)) = some (gW A s p (f + 1)) := by
      rw [ldB_n (show 2 * gt' s p f + (1 - p) < 1458 by omega) (by omega) h1, gW_t q]
      cases gW A s p f
      · cases gS A (gt' s p f) (1 - p) <;> rfl
      · rfl
    have ep : (if p = 0 then (some 1 : Option Int32) else some (-1)) = some (if p = 0 then 1 else -1) := by
      by_cases z : p = 0
      · rw [if_pos z, if_pos z]
      · rw [if_neg z, if_neg z]
    have vv : iI (gu (1 - p) (gL A (gt' s p f) (1 - p))) + (if p = 0 then (1 : Int32) else -1) = iI (gu p (gV A s p f)) := by
      have := gu_v hp2 (gL A (gt' s p f) (1 - p))
      unfold gV
      rw [← this, ← iI_add]
      congr 1
      by_cases z : p = 0
      · rw [if_pos z, if_pos z]; decide
      · rw [if_neg z, if_neg z]; decide
    have bb := gB_b w (k := f) hs hp2
    have vb := gV_b w hs hp2 q
    have vb2 : -6 ≤ gu p (gV A s p f) ∧ gu p (gV A s p f) ≤ 6 := by unfold gu; split <;> omega
    have nt : gN A s p (f + 1) = gN A s p f + 1 := by
      show gN A s p f + (if gK A s p f = true then 1 else 0) = _
      rw [if_pos q]
    rw [if_pos q']
    simp only [ix, pp, nn]
    rw [wv]
    simp only [Option.bind_some]
    rw [ldA_n (show 2 * gt' s p f + (1 - p) < 1458 by omega) (by omega), h2]
    simp only [Option.bind_some]
    have lt1 : (iI (gB A s p f) < iI (gu p (gV A s p f))) = (gB A s p f < gu p (gV A s p f)) := iI_ltI (by omega) (by omega) (by omega) (by omega)
    have lt2 : (iI (gu p (gV A s p f)) < iI (gB A s p f)) = (gu p (gV A s p f) < gB A s p f) := iI_ltI (by omega) (by omega) (by omega) (by omega)
    rw [ep]
    simp only [Option.bind_some, vv, lt1, lt2, f1]
    have n2 : nI (gN A s p f) + 1 = nI (gN A s p (f + 1)) := by rw [nt, li_1, nI_add]
    rw [n2]
    have best : ((if al (fun f => !(gK A s p f)) f = true then some true else if p = 0 then some (decide (gB A s p f < gu p (gV A s p f))) else some (decide (gu p (gV A s p f) < gB A s p f))).bind fun c59 => if c59 = true then some (iI (gu p (gV A s p f))) else some (iI (gB A s p f))) = some (iI (gB A s p (f + 1))) := by
      rw [gB_t w hs hp2 q]
      by_cases z : al (fun f => !(gK A s p f)) f = true
      · rw [if_pos z, if_pos z]; rfl
      · rw [if_neg z, if_neg z]
        by_cases y : p = 0
        · rw [if_pos y, if_pos y]
          by_cases x : gB A s p f < gu p (gV A s p f)
          · rw [decide_eq_true x]
            show some (iI (gu p (gV A s p f))) = _
            congr 2; omega
          · rw [decide_eq_false x]
            show some (iI (gB A s p f)) = _
            congr 2; omega
        · rw [if_neg y, if_neg y]
          by_cases x : gu p (gV A s p f) < gB A s p f
          · rw [decide_eq_true x]
            show some (iI (gu p (gV A s p f))) = _
            congr 2; omega
          · rw [decide_eq_false x]
            show some (iI (gB A s p f)) = _
            congr 2; omega
    rw [best]
    rfl
  · have q2 : gK A s p f = false := Bool.eq_false_iff.mpr q
    have q' : ¬ cn A (gM A s p) (gF A s) f = true := q
    have nt : gN A s p (f + 1) = gN A s p f := by
      show gN A s p f + (if gK A s p f = true then 1 else 0) = _
      rw [if_neg q]; rfl
    rw [if_neg q', gW_s q2, gB_s q2, nt]
    rfl
theorem m_solveState {A : LV} {m : MI} {s p : Nat} (h : MR A m) (w : WF A) (d : gD s m) (hs : s < 729) (hp2 : p < 2) (H : ∀ f, gK A s p f = true → m.1 79 (2 * gt' s p f + (1 - p)) = bI (gS A (gt' s p f) (1 - p)).isSome ∧ m.1 80 (2 * gt' s p f + (1 - p)) = iI (gu (1 - p) (gL A (gt' s p f) (1 - p)))) : M_solveState (nI s) (nI p) m = some (si (si (si m 79 (2 * s + p) (bI (gS A s p).isSome)) 80 (2 * s + p) (iI (gB A s p A.n))) 82 (2 * s + p) (bI (!(gC A s p)))) := by
  have hn := w.n6
  have n1 := gN_le A s p A.n
  have key := lp_seq (step := M_solveState_s1 m (nI p) (nI s)) (fun k => (nI (3 ^ k), gW A s p k, iI (gB A s p k), nI (gN A s p k), nI k)) A.n (r := (nI (3 ^ A.n), gW A s p A.n, iI (gB A s p A.n), nI (gN A s p A.n))) (by omega) (fun f hf => m_solveS1 h w d hs hp2 hf (H f)) (by
    simp only [M_solveState_s1, h.hn, nI_ltI (show A.n < 2 ^ 31 by omega) (show A.n < 2 ^ 31 by omega), Nat.lt_irrefl, if_false])
  have key' : lp (M_solveState_s1 m (nI p) (nI s)) FUEL (1, false, 0, 0, 0) = some (nI (3 ^ A.n), gW A s p A.n, iI (gB A s p A.n), nI (gN A s p A.n)) := key
  have ix : (2 : Int32) * nI s + nI p = nI (2 * s + p) := by rw [li_2, pk_mul, nI_add]
  have wv : gW A s p A.n = (gS A s p).isSome := (gS_n w hs hp2).symm
  have cv : decide (nI (gN A s p A.n) = 0) = !(gC A s p) := by
    rw [gC_n w, Bool.not_not, Bool.eq_iff_iff, decide_eq_true_eq, li_0, nI_eq (by omega) (by omega)]
    exact gN_0 A s p A.n
  unfold M_solveState
  rw [key']
  simp only [Option.bind_some, ix]
  rw [stB_n (show 2 * s + p < 1458 by omega) (by omega)]
  simp only [Option.bind_some]
  rw [stA_n (show 2 * s + p < 1458 by omega) (by omega)]
  simp only [Option.bind_some]
  rw [stB_n (show 2 * s + p < 1458 by omega) (by omega), cv, wv]
  rfl
