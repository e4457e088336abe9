/-! ===== chain: the reference's call, and both ===== -/
theorem m_chGood {d z : Nat} {A : LV} {x : Nat → Int32} {μ : MI} (hd : d < 8) (h : MR A μ) (w : WF A) (hz : z ≤ 100) (e9 : μ.1 89 d = nI z) (hx : ∀ i, i < 100 → μ.2 90 (100 * d + i) = (x i).toInt64) : lp (M_chain_s1 μ (nI d)) FUEL (decide (nI z = nI A.n), 0) = some (chOk A x z) := by
  have hn := w.n6
  have hp := w.p3
  have l9 : ldA 8 μ 89 (nI d) = some (nI z) := by rw [ldA_n hd (by omega), e9]
  by_cases ez : z = A.n
  · subst ez
    obtain ⟨o, a1, a2⟩ := lp_inv (step := M_chain_s1 μ (nI d)) (s := (true, nI 0)) (fun f t => t.2 = nI f ∧ ((t.1 = true ∧ ∀ j, j < f → okO (x j) A.p = true) ∨ (t.1 = false ∧ ∃ j, j < A.n ∧ okO (x j) A.p = false))) (fun o => o = chOk A x A.n) A.n (by omega) ⟨rfl, Or.inl ⟨rfl, fun j hj => absurd hj (Nat.not_lt_zero _)⟩⟩ (by
        rintro f ⟨g, i⟩ hf ⟨t1, t2⟩
        simp only at t1 t2; subst t1
        unfold M_chain_s1
        simp only []
        rw [l9]
        simp only [Option.bind_some]
        rw [if_pos (nI_lt hf (by omega))]
        simp only [Option.bind_some]
        rcases t2 with ⟨rfl, t2⟩ | ⟨rfl, j, j1, j2⟩
        · refine Or.inl ⟨(okO (x f) A.p, nI (f + 1)), ?_, rfl, ?_⟩
          · have l1 : ldL 800 μ 90 (100 * nI d + nI f) = some (x f).toInt64 := by
              rw [li_100, pk_mul, nI_add, ldL_n (by omega) (by omega), hx _ (by omega)]
            have ok : ((M_in (x f).toInt64 0 (((μ.1 62 5) - 1).toInt64)).bind fun b41 => if b41 = true then some true else some (decide ((x f).toInt64 = 9))) = some (okO (x f) A.p) := by
              rw [h.hp, M_in_n _ (show A.p < 2 ^ 30 by omega)]
              simp only [Option.bind_some, i64_9]
              unfold okO
              cases inR (x f) A.p <;> by_cases g : x f = 9 <;> simp [g]
            simp only [if_true]
            rw [l1]
            simp only [Option.bind_some]
            rw [ok]
            simp only [Option.bind_some, li_1, nI_add]
          · cases hq : okO (x f) A.p
            · exact Or.inr ⟨rfl, f, hf, hq⟩
            · refine Or.inl ⟨rfl, fun j hj => ?_⟩
              by_cases e : j = f
              · rw [e]; exact hq
              · exact t2 j (by omega)
        · refine Or.inr ⟨false, by simp only [Bool.false_eq_true, if_false], ?_⟩
          unfold chOk
          have : al (fun f => okO (x f) A.p) A.n = false := by
            cases q : al (fun f => okO (x f) A.p) A.n
            · rfl
            · rw [al_iff.mp q j j1] at j2; cases j2
          rw [this, Bool.and_false]) (by
        rintro ⟨g, i⟩ ⟨t1, t2⟩
        simp only at t1 t2; subst t1
        unfold M_chain_s1
        simp only []
        rw [l9]
        simp only [Option.bind_some]
        rw [if_neg (nI_nlt (Nat.le_refl _) (by omega))]
        simp only [Option.bind_some, Bool.false_eq_true, if_false]
        refine ⟨g, rfl, ?_⟩
        unfold chOk
        rw [decide_eq_true rfl, Bool.true_and]
        rcases t2 with ⟨rfl, t2⟩ | ⟨rfl, j, j1, j2⟩
        · exact (al_iff.mpr t2).symm
        · cases q : al (fun f => okO (x f) A.p) A.n
          · rfl
          · rw [al_iff.mp q j j1] at j2; cases j2)
    rw [decide_eq_true rfl, ← a2]
    exact a1
  · rw [decide_eq_false (fun q => ez ((nI_eq (by omega) (by omega)).mp q))]
    have c0 : chOk A x z = false := by
      unfold chOk
      rw [decide_eq_false ez, Bool.false_and]
    rw [c0]
    refine lp_seq (fun k => (false, nI k)) 0 (by omega) (fun i hi => absurd hi (Nat.not_lt_zero _)) ?_
    unfold M_chain_s1
    simp only []
    rw [l9]
    simp only [Option.bind_some]
    by_cases q : nI 0 < nI z
    · rw [if_pos q]
      simp only [Option.bind_some, Bool.false_eq_true, if_false]
    · rw [if_neg q]
      simp only [Option.bind_some, Bool.false_eq_true, if_false]
theorem m_endOwn {d : Nat} {A : LV} {x : Nat → Int32} {μ : MI} (hd : d < 8) (h : MR A μ) (w : WF A) (hx : ∀ i, i < 100 → μ.2 90 (100 * d + i) = (x i).toInt64) (ok : ∀ f, f < A.n → okO (x f) A.p = true) : ∃ s, lp (M_chain_s2 (nI d)) FUEL (0, μ) = some s ∧ ag (fun a _ => a = 69) μ s ∧ OW A (fun f => oc (x f)) s := by
  have hn := w.n6
  have hp := w.p3
  obtain ⟨s, v1, v2, v3⟩ := lp_m (step := M_chain_s2 (nI d)) (fun k s => ag (fun a _ => a = 69) μ s ∧ ∀ f, f < k → s.1 69 f = nI (oc (x f))) A.n (by omega) (μ := μ) ⟨ag_rf _ _, fun x hx => absurd hx (Nat.not_lt_zero _)⟩ (fun f s hf ⟨z1, z2⟩ => by
    have hs : MR A s := h.tg z1 (fun a j z => Or.inl (Or.inr (Or.inl (by omega))))
    refine ⟨si s 69 f (nI (oc (x f))), ?_, ag_st z1 rfl, fun g hg => ?_⟩
    · have l1 : ldL 800 s 90 (100 * nI d + nI f) = some (x f).toInt64 := by
        rw [li_100, pk_mul, nI_add, ldL_n (by omega) (by omega), z1.2, hx _ (by omega)]
      have oo : (if x f = 9 then some 0 else some (x f + 1)) = some (nI (oc (x f))) := by
        have g1 := ok f hf
        unfold oc
        by_cases g : x f = 9
        · rw [if_pos g, if_pos g]; rfl
        · rw [if_neg g, if_neg g]
          unfold okO at g1
          rw [decide_eq_false g, Bool.false_or] at g1
          obtain ⟨j, hj, ej⟩ := inR_t g1
          rw [ej, nI_clamp (by omega), li_1, nI_add]
      unfold M_chain_s2
      simp only []
      rw [hs.hn, if_pos (nI_lt hf (by omega)), l1]
      simp only [Option.bind_some, i64_9, i64_32]
      rw [oo]
      simp only [Option.bind_some]
      rw [stA_n (show f < 6 by omega) (by omega)]
      simp only [Option.bind_some, li_1, nI_add]
    · rw [si_at]
      by_cases e : g = f
      · rw [if_pos e, e]
      · rw [if_neg e, z2 g (by omega)]) (fun s ⟨z1, z2⟩ => by
    have hs : MR A s := h.tg z1 (fun a j z => Or.inl (Or.inr (Or.inl (by omega))))
    simp only [M_chain_s2, hs.hn, if_neg (nI_nlt (Nat.le_refl _) (show A.n < 2 ^ 31 by omega))])
  exact ⟨s, v1, v2, v3, fun f hf => (okO_t (ok f hf) hp).1⟩
theorem m_blank (μ : MI) : ∃ s, lp (M_chain_s3) FUEL (0, μ) = some s ∧ ag (fun a _ => a = 77) μ s ∧ ∀ c, c < 4096 → s.1 77 c = -4 := by
  obtain ⟨s, v1, v2, v3⟩ := lp_m (step := M_chain_s3) (fun k s => ag (fun a _ => a = 77) μ s ∧ ∀ f, f < k → s.1 77 f = -4) 4096 (by omega) (μ := μ) ⟨ag_rf _ _, fun x hx => absurd hx (Nat.not_lt_zero _)⟩ (fun f s hf ⟨z1, z2⟩ => by
    refine ⟨si s 77 f (-4), ?_, ag_st z1 rfl, fun g hg => ?_⟩
    · unfold M_chain_s3
      simp only []
      rw [if_pos (show nI f < 4096 from by rw [li_4096]; exact nI_lt hf (by omega)), stA_n hf (by omega)]
      simp only [Option.bind_some, li_1, nI_add]
    · rw [si_at]
      by_cases e : g = f
      · rw [if_pos e]
      · rw [if_neg e, z2 g (by omega)]) (fun s _ => by
    unfold M_chain_s3
    simp only []
    rw [if_neg (show ¬ nI 4096 < 4096 from by rw [li_4096]; exact nI_nlt (Nat.le_refl _) (by omega))])
  exact ⟨s, v1, v2, v3⟩
theorem M_chain_in {d z : Nat} {A : LV} {x : Nat → Int32} {μ : MI} (hd : d < 8) (h : MR A μ) (w : WF A) (hz : z ≤ 100) (e9 : μ.1 89 d = nI z) (hx : ∀ i, i < 100 → μ.2 90 (100 * d + i) = (x i).toInt64) (wb : M_wrongBytes (nI d) (si μ 62 10 (nI 0)) = some 0) : ∃ r s, M_chain (nI d) μ = some (r, s) ∧ ag pM μ s ∧ (chOk A x z = false → r = -13) ∧ (chOk A x z = true → SD (nbG A) (cut A.n A.ow) (cut A.n (fun f => oc (x f))) r) := by
  have hn := w.n6
  have hp := w.p3
  have g0 : ag pM μ (si μ 62 10 (nI 0)) := ag_62 (by omega)
  have h0 := h.agM g0
  have e9' : (si μ 62 10 (nI 0)).1 89 d = nI z := by rw [si_ne (by omega)]; exact e9
  have good := m_chGood hd h0 w hz e9' hx
  unfold M_chain
  rw [thr0]
  simp only [Option.bind_some]
  rw [wb]
  simp only [Option.bind_some]
  rw [if_neg (show ¬ (0 : Int32) < 0 by decide), ldA_n hd (by omega), e9', h0.hn]
  simp only [Option.bind_some]
  rw [good]
  simp only [Option.bind_some]
  cases hc : chOk A x z
  · simp only [Bool.false_eq_true, if_false]
    exact ⟨-13, _, rfl, g0, fun _ => rfl, fun q => by cases q⟩
  · simp only [if_true]
    have ok : ∀ f, f < A.n → okO (x f) A.p = true := by
      unfold chOk at hc
      rw [Bool.and_eq_true] at hc
      exact al_iff.mp hc.2
    obtain ⟨s1, a1, a2, a3⟩ := m_endOwn hd h0 w hx ok
    have h1 : MR A s1 := h0.tg a2 (fun a j z => Or.inl (Or.inr (Or.inl (by omega))))
    rw [a1]
    simp only [Option.bind_some]
    rw [m_numberOf h1 w a3]
    simp only [Option.bind_some]
    obtain ⟨s2, b1, b2, b3⟩ := m_blank s1
    have h2 : MR A s2 := h1.tg b2 (fun a j z => Or.inl (Or.inr (Or.inl (by omega))))
    rw [b1]
    simp only [Option.bind_some]
    obtain ⟨s3, c1, c2, c3⟩ := m_takeNow h2 w
    have h3 : MR A s3 := h2.tg c3 (fun a j z => Or.inl (Or.inr (Or.inl (by omega))))
    rw [c1]
    simp only [Option.bind_some]
    rw [m_numberOf h3 w c2]
    simp only [Option.bind_some]
    have oe : OKs A (cut A.n (fun f => oc (x f))) := cut_ok a3.2
    have os0 : OKs A (cut A.n A.ow) := cut_ok fun f hf => w.owl hf
    have n1 : nu A (fun f => oc (x f)) = nu A (cut A.n (fun f => oc (x f))) := enc_cg fun f hf => (cut_in (g := fun f => oc (x f)) hf).symm
    have n2 : nu A A.ow = nu A (cut A.n A.ow) := enc_cg fun f hf => (cut_in hf).symm
    have l2 := nu_lt w os0.1
    have q0 : stA 4096 s3 78 0 (nI (nu A (cut A.n A.ow))) = some (si s3 78 0 (nI (nu A (cut A.n A.ow)))) := stA_n (i := 0) (show 0 < 4096 by omega) (by omega)
    rw [n1, n2, q0]
    simp only [Option.bind_some]
    have q1 : ldA 4096 (si s3 78 0 (nI (nu A (cut A.n A.ow)))) 78 0 = some (nI (nu A (cut A.n A.ow))) := by
      rw [show (0 : Int32) = nI 0 from rfl, ldA_n (show 0 < 4096 by omega) (by omega), si_at, if_pos rfl]
    rw [q1]
    simp only [Option.bind_some]
    rw [stA_n l2 (by omega)]
    simp only [Option.bind_some]
    have gx : ag pQ2 (si μ 62 10 (nI 0)) (si (si s3 78 0 (nI (nu A (cut A.n A.ow)))) 77 (nu A (cut A.n A.ow)) 0) := ag_st (ag_st (ag_tr (ag_mo a2 (fun a j z => Or.inl z)) (ag_tr (ag_mo b2 (fun a j z => by unfold pQ2; omega)) (ag_mo c3 (fun a j z => Or.inl z)))) (by unfold pQ2; omega)) (by unfold pQ2; omega)
    have rt : RT A (cut A.n A.ow) 0 1 (fun _ => cut A.n A.ow) (fun _ => 0) (si (si s3 78 0 (nI (nu A (cut A.n A.ow)))) 77 (nu A (cut A.n A.ow)) 0) := by
      refine ⟨BI_0 _ _, (h3.sx (Or.inl (Or.inr (Or.inl (by omega))))).sx (Or.inl (Or.inr (Or.inl (by omega)))), fun i hi => ⟨os0, ?_, ?_⟩, fun c hc z => ?_⟩
      · rw [si_ne (by omega), si_at, if_pos (by omega)]
      · rw [si_at, if_pos rfl]; rfl
      · rw [si_at, if_neg (fun y => z 0 (by omega) y.symm), si_ne (by omega), c3.1 77 c (by omega)]
        exact b3 c hc
    obtain ⟨n, s, u1, u2, u3⟩ := m_queue w oe rt
    rw [u1]
    simp only [Option.bind_some]
    rw [ldA_n (nu_lt w oe.1) (by omega)]
    simp only [Option.bind_some]
    exact ⟨_, s, rfl, ag_tr g0 (ag_mo (ag_tr gx u2) (fun a j z => by unfold pQ2 at z; exact Or.inr (Or.inl (by omega)))), fun q => (by cases q), fun _ => u3⟩
theorem L_16 {μ : MI} (h : INV μ) (x : Int32) : ∃ μ', Lc_16 x μ = some μ' ∧ INV μ' := by
  have g0 : INV (si μ 62 10 (nI 0)) := Lc_same h (ag_rf _ _) (ag_62 (by omega))
  unfold Lc_16
  have r85 : (si μ 62 10 (nI 0)).1 85 = μ.1 85 := si_ne (by omega)
  have r88 : (si μ 62 10 (nI 0)).1 88 = μ.1 88 := si_ne (by omega)
  rcases bytes_cases h x with ⟨b1, b2⟩ | ⟨d, r, hd, rfl, hr, b1, b2, b3⟩ | ⟨d, z, hd, rfl, hz, b1, b2, b3, b4, b5, b6, b7⟩
  · unfold N_chain M_chain
    rw [b1]
    simp only [thr0, onN_0, Option.bind_some, b2, show ((-1 : Int32) < 0) = True from by decide, if_true]
    exact ⟨_, rfl, g0⟩
  · unfold N_chain M_chain
    rw [b1]
    have r0 : r ≠ 0 := fun e => by rw [e] at hr; exact absurd hr (by decide)
    simp only [thr0, onN_1, b2, Option.bind_some, if_pos r0, b3 _ (congrFun r85 d) (congrFun r88 d), if_pos hr, if_true]
    exact ⟨_, rfl, g0⟩
  · obtain ⟨A, w, co, k1, k2⟩ := h.1
    obtain ⟨r, m, e1, g1, e2, e3⟩ := N_chain_in hd k1 w hz b4
    have c : ∀ a j, 38 ≤ a → a ≠ 62 → (si m 62 10 (nI 0)).1 a j = μ.1 a j := fun a j q1 q2 => by rw [si_ne q2]; exact g1.1 a j (by unfold pC; omega)
    have c' : ∀ a j, 38 ≤ a → m.1 a j = μ.1 a j := fun a j q1 => g1.1 a j (by unfold pC; omega)
    have nv : N_chain (nI d) μ = some (r, m) := by
      unfold N_chain
      rw [b1, onN_1, b2]
      simp only [Option.bind_some]
      rw [if_neg (show ¬ ((0 : Int32) ≠ 0) from fun e => e rfl)]
      exact e1
    obtain ⟨r', n, f1, f2, f3, f4⟩ := M_chain_in (x := μ.1 (38 + 3 * d + 2)) (z := z) hd (k2.agC g1) w hz ((c' 89 d (by omega)).trans b5) (fun i hi => by rw [g1.2]; exact b6 i hi) (b3 _ (c _ _ (by omega) (by omega)) (c _ _ (by omega) (by omega)))
    have er : r = r' := by
      cases hc : chOk A (μ.1 (38 + 3 * d + 2)) z
      · rw [e2 hc, f3 hc]
      · have ok : ∀ f, f < A.n → okO (μ.1 (38 + 3 * d + 2) f) A.p = true := by
          have hc := hc
          unfold chOk at hc
          rw [Bool.and_eq_true] at hc
          exact al_iff.mp hc.2
        exact SD_un (e3 hc) (f4 hc) (fun j => Fr_RG w (fun f hf => by rw [cut_in hf]; exact (okO_t (ok f hf) w.p3).1) j)
    rw [nv]
    simp only [Option.bind_some]
    rw [f1]
    simp only [Option.bind_some]
    rw [if_pos er]
    exact ⟨n, rfl, Lc_same h g1 f2⟩
