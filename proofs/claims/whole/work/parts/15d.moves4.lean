theorem m_pay {A : LV} {μ : MI} {k q f o g : Nat} (h : MR A μ) (w : WF A) (co : CO A) (hm : MM k q f o g μ) (ht : thr_ A k q f o g) : ∃ μ', M_pay μ = some μ' ∧ PRS A (nCo A k q f g) μ μ' ∧ ag (fun a _ => a = 75) μ μ' := by
  have hn := w.n6
  have hp := w.p3
  obtain ⟨h1, h2, h3, h4, h5, h6, h7⟩ := ht
  have ac := w.acl h3
  have cq := co q h2
  have o1 := w.owl h3
  have dl := due_le w (k := k) h3 h4
  obtain ⟨n1, c1, c2, c3⟩ := PRS.rf h w
  have n62 : ∀ j, n1.1 62 j = μ.1 62 j := fun j => c3.1 _ _ (by omega)
  have v63 : ldA 6 n1 63 (n1.1 62 23) = some (nI (A.ac f)) := by rw [n62, hm.2.2.1, ldA_n (by omega) (by omega), c3.1 _ _ (by omega), h.hac h3]
  have pv : 10 * nI (A.ac f) + n1.1 62 25 = nI (10 * A.ac f + g) := by rw [n62, hm.2.2.2.2, li_10, pk_mul, nI_add]
  unfold M_pay
  rw [c1]
  simp only [Option.bind_some]
  rw [v63]
  simp only [Option.bind_some]
  rw [pv]
  -- behind the first branch
  have tail : ∀ (m : MI), ag (fun a _ => a = 75) μ m → (k = 1 ∨ k = 4 ∨ k = 0 ∨ k = 2 ∨ k = 3 ∨ k = 6) → (((if m.1 62 26 = 5 then ((M_add (m.1 62 22) ((-5) * (m.1 62 25)) m).bind fun m74 => some m74) else some m) : Option MI).bind fun m71 => ((if m71.1 62 26 = 7 then ((M_add (m71.1 62 22) (nI (10 * A.ac f + g) / 2) m71).bind fun m85 => some m85) else some m71) : Option MI).bind fun m82 => some m82) = some m := by
    intro m gm hk
    have k1 : m.1 62 26 = nI k := by rw [gm.1 _ _ (by omega)]; exact hm.1
    have ne5 : ¬ nI k = 5 := by rw [li_5, nI_eq (by omega) (by omega)]; omega
    have ne7 : ¬ nI k = 7 := by rw [li_7, nI_eq (by omega) (by omega)]; omega
    rw [k1, if_neg ne5]
    simp only [Option.bind_some]
    rw [k1, if_neg ne7]
    rfl
  have kv : n1.1 62 26 = nI k := by rw [n62]; exact hm.1
  by_cases e1 : k = 1 ∨ k = 4
  · have cb : (if n1.1 62 26 = 1 then some true else some (decide (n1.1 62 26 = 4))) = some true := by
      rw [kv]
      rcases e1 with rfl | rfl <;> rfl
    have xv : (if n1.1 62 26 = 4 then some (2 * nI (10 * A.ac f + g)) else some (nI (10 * A.ac f + g))) = some (nI (due A k f g)) := by
      rw [kv]
      unfold due
      rcases e1 with rfl | rfl
      · rfl
      · rw [if_pos (show nI 4 = 4 from rfl), if_pos rfl, li_2, pk_mul]
    rw [cb]
    simp only [Option.bind_some, if_true]
    rw [xv]
    simp only [Option.bind_some]
    have neg : -nI (due A k f g) = iI (-(due A k f g : Nat)) := by rw [← iI_nat, iI_neg]
    obtain ⟨a1, a2⟩ := m_add w (s := -(due A k f g : Nat)) c2 h2 (by omega)
    rw [n62, hm.2.1, neg, a1]
    have g2 : ag (fun a _ => a = 75) μ (si n1 75 q (iI (cap (A.co q + -(due A k f g : Nat))))) := ag_st c3 rfl
    generalize si n1 75 q (iI (cap (A.co q + -(due A k f g : Nat)))) = n2 at a2 g2 ⊢
    simp only [Option.bind_some]
    have ov : ldA 6 n2 68 (n2.1 62 23) = some (nI (A.ow f)) := by rw [g2.1 _ _ (by omega), hm.2.2.1, ldA_n (by omega) (by omega), g2.1 _ _ (by omega), h.how h3]
    rw [ov]
    simp only [Option.bind_some]
    by_cases e0 : A.ow f = 0
    · rw [e0, if_neg (show ¬ (0 : Int32) < nI 0 from by decide)]
      simp only [Option.bind_some]
      rw [tail n2 g2 (by omega)]
      refine ⟨n2, rfl, ?_, g2⟩
      have : nCo A k q f g = ea A.co q (-(due A k f g : Nat)) := by unfold nCo; rw [if_pos e1, if_pos e0]
      rw [this]; exact a2
    · rw [if_pos (show (0 : Int32) < nI (A.ow f) from by rw [li_0]; exact nI_lt (by omega) (by omega)), li_1, pk_sub (by omega)]
      have eb : -100000 ≤ ea A.co q (-(due A k f g : Nat)) (A.ow f - 1) + (due A k f g : Nat) ∧ ea A.co q (-(due A k f g : Nat)) (A.ow f - 1) + (due A k f g : Nat) ≤ 100000 := by
        have c0 := co (A.ow f - 1) (by omega)
        unfold ea
        by_cases z : A.ow f - 1 = q
        · rw [if_pos z]; unfold cap; split <;> omega
        · rw [if_neg z]; omega
      obtain ⟨b1, b2⟩ := m_add w (s := (due A k f g : Nat)) a2 (show A.ow f - 1 < A.p by omega) eb
      rw [← iI_nat (due A k f g), b1]
      have g3 : ag (fun a _ => a = 75) μ (si n2 75 (A.ow f - 1) (iI (cap (ea A.co q (-(due A k f g : Nat)) (A.ow f - 1) + (due A k f g : Nat))))) := ag_st g2 rfl
      simp only [Option.bind_some]
      have tl := tail _ g3 (by omega)
      simp only [Option.bind_some] at tl
      rw [tl]
      refine ⟨_, rfl, ?_, g3⟩
      have : nCo A k q f g = ea (ea A.co q (-(due A k f g : Nat))) (A.ow f - 1) (due A k f g : Nat) := by unfold nCo; rw [if_pos e1, if_neg e0]
      rw [this]; exact b2
  · have cb : (if n1.1 62 26 = 1 then some true else some (decide (n1.1 62 26 = 4))) = some false := by
      rw [kv, if_neg (by rw [li_1, nI_eq (by omega) (by omega)]; omega), decide_eq_false (by rw [li_4, nI_eq (by omega) (by omega)]; omega)]
    rw [cb]
    simp only [Option.bind_some, Bool.false_eq_true, if_false]
    by_cases e5 : k = 5
    · subst e5
      obtain ⟨a1, a2⟩ := m_add w (s := -(5 * g : Nat)) c2 h2 (by omega)
      have sv : (-5 : Int32) * nI g = iI (-(5 * g : Nat)) := by
        rw [← iI_nat, show (-5 : Int32) = iI (-5) from by decide, iI_mul]; first | rfl | (congr 1; omega)
      rw [kv, if_pos (show nI 5 = 5 from rfl), n62, n62, hm.2.1, hm.2.2.2.2, sv, a1]
      have g2 : ag (fun a _ => a = 75) μ (si n1 75 q (iI (cap (A.co q + -(5 * g : Nat))))) := ag_st c3 rfl
      simp only [Option.bind_some]
      rw [show (si n1 75 q (iI (cap (A.co q + -(5 * g : Nat))))).1 62 26 = nI 5 from by rw [g2.1 _ _ (by omega)]; exact hm.1, if_neg (show ¬ nI 5 = 7 from by decide)]
      exact ⟨_, rfl, a2, g2⟩
    · rw [kv, if_neg (show ¬ nI k = 5 from by rw [li_5, nI_eq (by omega) (by omega)]; exact e5)]
      simp only [Option.bind_some]
      by_cases e7 : k = 7
      · subst e7
        obtain ⟨a1, a2⟩ := m_add w (s := (((10 * A.ac f + g) / 2 : Nat))) c2 h2 (by omega)
        have d2 : nI (10 * A.ac f + g) / 2 = iI (((10 * A.ac f + g) / 2 : Nat)) := by
          rw [iI_nat]; exact pk_div (d := 2) (by omega) (by omega) (by omega)
        rw [kv, if_pos (show nI 7 = 7 from rfl), n62, hm.2.1, d2, a1]
        exact ⟨_, rfl, a2, ag_st c3 rfl⟩
      · rw [kv, if_neg (show ¬ nI k = 7 from by rw [li_7, nI_eq (by omega) (by omega)]; exact e7)]
        refine ⟨n1, rfl, ?_, c3⟩
        have : nCo A k q f g = A.co := by unfold nCo; rw [if_neg e1, if_neg e5, if_neg e7]
        rw [this]; exact c2
theorem m_canBeDone {A : LV} {μ : MI} {k q f o g : Nat} (h : MR A μ) (w : WF A) (co : CO A) (hm : MM k q f o g μ) (ht : thr_ A k q f o g) (hpu : ∀ x, x < 3 → 0 ≤ (μ.1 65 x).toInt) : ∃ μ', M_canBeDone μ = some (canDo A k q f o g, μ') ∧ ag (fun a _ => a = 69 ∨ a = 75) μ μ' ∧ (canDo A k q f o g = true → OW A (nOw A k q f o g) μ' ∧ PRS A (nCo A k q f g) μ μ') := by
  have hn := w.n6
  have hp := w.p3
  unfold M_canBeDone canDo
  rw [m_isAsTold h w hm ht]
  cases hd : told A k q f o g
  · exact ⟨μ, rfl, ag_rf _ _, fun e => by cases e⟩
  obtain ⟨n1, c1, c2, c3⟩ := m_changeOwners h w hm ht
  have hr1 : MR A n1 := h.tg c3 (fun a j e => Or.inl (Or.inr (Or.inl (by omega))))
  have hm1 : MM k q f o g n1 := hm.fr (fun j _ _ => c3.1 _ _ (by omega))
  obtain ⟨h1, h2, h3, h4, h5, h6, h7⟩ := id ht
  simp only [Option.bind_some, if_true, c1]
  -- the purse, and the end
  have fin : ∀ (u : MI) (fine : Bool), MR A u → ag (fun a _ => a = 69) μ u → OW A (nOw A k q f o g) u → ∃ μ', ((M_pay u).bind fun m49 => (if fine = true then ((ldA 3 m49 75 0).bind fun x59 => if 0 ≤ x59 then ((ldA 3 m49 75 1).bind fun x63 => if 0 ≤ x63 then ((ldA 3 m49 75 2).bind fun x67 => some (decide (0 ≤ x67))) else some false) else some false) else some false : Option Bool).bind fun c52 => some (c52, m49)) = some (fine && al (fun x => decide (0 ≤ nCo A k q f g x)) A.p, μ') ∧ ag (fun a _ => a = 69 ∨ a = 75) μ μ' ∧ OW A (nOw A k q f o g) μ' ∧ PRS A (nCo A k q f g) μ μ' := by
    intro u fine hu gu ou
    have hmu : MM k q f o g u := hm.fr (fun j _ _ => gu.1 _ _ (by omega))
    obtain ⟨v, v1, v2, v3⟩ := m_pay hu w co hmu ht
    have v2' : PRS A (nCo A k q f g) μ v := fun x hx => by rw [v2 x hx, gu.1 65 x (by omega)]
    have nb := nCo_b w co (k := k) (q := q) (f := f) (g := g) h3 h4
    refine ⟨v, ?_, ag_tr (ag_mo gu (fun a j e => Or.inl e)) (ag_mo v3 (fun a j e => Or.inr e)), ou.tg v3 (fun a j e => by omega), v2'⟩
    rw [v1]
    simp only [Option.bind_some]
    have ge : ∀ x, x < 3 → ((0 : Int32) ≤ v.1 75 x) = (x < A.p → 0 ≤ nCo A k q f g x) := fun x hx => by
      rw [v2' x hx]
      apply propext
      by_cases g : x < A.p
      · have := nb x g
        rw [if_pos g, iI_ge0 (by omega) (by omega)]
        exact ⟨fun z _ => z, fun z => z g⟩
      · rw [if_neg g]
        refine ⟨fun _ z => absurd z g, fun _ => ?_⟩
        rw [Int32.le_iff_toInt_le]; exact hpu x hx
    have l0 : ldA 3 v 75 0 = some (v.1 75 0) := ldA_n (i := 0) (by omega) (by omega)
    have l1 : ldA 3 v 75 1 = some (v.1 75 1) := ldA_n (i := 1) (by omega) (by omega)
    have l2 : ldA 3 v 75 2 = some (v.1 75 2) := ldA_n (i := 2) (by omega) (by omega)
    have i0 := ge 0 (by omega)
    have i1 := ge 1 (by omega)
    have i2 := ge 2 (by omega)
    rw [l0, l1, l2]
    simp only [Option.bind_some]
    have eal : al (fun x => decide (0 ≤ nCo A k q f g x)) A.p = decide ((0 : Int32) ≤ v.1 75 0 ∧ (0 : Int32) ≤ v.1 75 1 ∧ (0 : Int32) ≤ v.1 75 2) := by
      rw [Bool.eq_iff_iff, al_iff, decide_eq_true_eq, i0, i1, i2]
      constructor
      · intro z
        exact ⟨fun y => of_decide_eq_true (z 0 y), fun y => of_decide_eq_true (z 1 y), fun y => of_decide_eq_true (z 2 y)⟩
      · rintro ⟨z0, z1, z2⟩ x hx
        rcases (by omega : x = 0 ∨ x = 1 ∨ x = 2) with rfl | rfl | rfl
        · exact decide_eq_true (z0 hx)
        · exact decide_eq_true (z1 hx)
        · exact decide_eq_true (z2 hx)
    rw [eal]
    cases fine
    · rfl
    · by_cases g0 : (0 : Int32) ≤ v.1 75 0
      · by_cases g1 : (0 : Int32) ≤ v.1 75 1
        · by_cases g2 : (0 : Int32) ≤ v.1 75 2 <;> simp [g0, g1, g2]
        · simp [g0, g1]
      · simp [g0]
  by_cases e5 : k = 5
  · subst e5
    have h8 := h6 (by omega)
    have t1 : A.to f o = 1 := by
      unfold told at hd
      exact of_decide_eq_true hd
    have fo : f ≠ o := fun z => by rw [z, w.di] at t1; cases t1
    have k1 : n1.1 62 26 = nI 5 := hm1.1
    have x9 : ldA 36 n1 64 ((6 * n1.1 62 23) + n1.1 62 24) = some (nI (A.to f o)) := by rw [hm1.2.2.1, hm1.2.2.2.1, li_6, pk_mul, nI_add, ldA_n (by omega) (by omega), hr1.hto h3 h8]
    rw [k1]
    simp only [show (nI 5 = (5 : Int32)) = True from by decide, if_true]
    rw [x9]
    simp only [Option.bind_some]
    have s1 : stA 36 n1 64 ((6 * n1.1 62 23) + n1.1 62 24) 2 = some (si n1 64 (6 * f + o) (nI 2)) := by rw [hm1.2.2.1, hm1.2.2.2.1, li_6, li_2, pk_mul, nI_add, stA_n (by omega) (by omega)]
    have s2 : stA 36 (si n1 64 (6 * f + o) (nI 2)) 64 ((6 * (si n1 64 (6 * f + o) (nI 2)).1 62 24) + (si n1 64 (6 * f + o) (nI 2)).1 62 23) 2 = some (si (si n1 64 (6 * f + o) (nI 2)) 64 (6 * o + f) (nI 2)) := by rw [si_ne (by omega), hm1.2.2.1, hm1.2.2.2.1, li_6, li_2, pk_mul, nI_add, stA_n (by omega) (by omega)]
    rw [s1]
    simp only [Option.bind_some]
    rw [s2]
    simp only [Option.bind_some]
    have hr2 := hr1.stt w (v := 2) h3 h8
    have w2 := w.stt (h := 2) h3 h8 fo (by omega)
    have ow2 : OW (A.stt f o 2) (nOw A 5 q f o g) (si (si n1 64 (6 * f + o) (nI 2)) 64 (6 * o + f) (nI 2)) := ⟨fun x hx => by rw [si_ne (by omega), si_ne (by omega)]; exact c2.1 x hx, c2.2⟩
    have fi := m_isFine hr2 w2 ow2
    have k2 : (si (si n1 64 (6 * f + o) (nI 2)) 64 (6 * o + f) (nI 2)).1 62 26 = nI 5 := by rw [si_ne (by omega), si_ne (by omega)]; exact k1
    rw [fi]
    simp only [Option.bind_some]
    rw [k2]
    simp only [show (nI 5 = (5 : Int32)) = True from by decide, if_true]
    have hb := hr2.back w h3 h8
    have s3 : stA 36 (si (si n1 64 (6 * f + o) (nI 2)) 64 (6 * o + f) (nI 2)) 64 ((6 * (si (si n1 64 (6 * f + o) (nI 2)) 64 (6 * o + f) (nI 2)).1 62 23) + (si (si n1 64 (6 * f + o) (nI 2)) 64 (6 * o + f) (nI 2)).1 62 24) (nI (A.to f o)) = some (si (si (si n1 64 (6 * f + o) (nI 2)) 64 (6 * o + f) (nI 2)) 64 (6 * f + o) (nI (A.to f o))) := by rw [si_ne (by omega), si_ne (by omega), hm1.2.2.1, hm1.2.2.2.1, li_6, pk_mul, nI_add, stA_n (by omega) (by omega)]
    have s4 : stA 36 (si (si (si n1 64 (6 * f + o) (nI 2)) 64 (6 * o + f) (nI 2)) 64 (6 * f + o) (nI (A.to f o))) 64 ((6 * (si (si (si n1 64 (6 * f + o) (nI 2)) 64 (6 * o + f) (nI 2)) 64 (6 * f + o) (nI (A.to f o))).1 62 24) + (si (si (si n1 64 (6 * f + o) (nI 2)) 64 (6 * o + f) (nI 2)) 64 (6 * f + o) (nI (A.to f o))).1 62 23) (nI (A.to f o)) = some (si (si (si (si n1 64 (6 * f + o) (nI 2)) 64 (6 * o + f) (nI 2)) 64 (6 * f + o) (nI (A.to f o))) 64 (6 * o + f) (nI (A.to f o))) := by rw [si_ne (by omega), si_ne (by omega), si_ne (by omega), hm1.2.2.1, hm1.2.2.2.1, li_6, pk_mul, nI_add, stA_n (by omega) (by omega)]
    rw [s3]
    simp only [Option.bind_some]
    rw [s4]
    simp only [Option.bind_some]
    have gu : ag (fun a _ => a = 69) μ (si (si (si (si n1 64 (6 * f + o) (nI 2)) 64 (6 * o + f) (nI 2)) 64 (6 * f + o) (nI (A.to f o))) 64 (6 * o + f) (nI (A.to f o))) := by
      refine ⟨fun a j z => ?_, c3.2⟩
      rw [← c3.1 a j z]
      by_cases ea : a = 64
      · subst ea
        have v1 := hr1.hto h3 h8
        have v2 := hr1.hto h8 h3
        rw [w.sy o f] at v2
        simp only [si_v, true_and]
        by_cases z1 : j = 6 * o + f
        · rw [if_pos z1, z1, v2]
        · rw [if_neg z1]
          by_cases z2 : j = 6 * f + o
          · rw [if_pos z2, z2, v1]
          · rw [if_neg z2, if_neg z1, if_neg z2]
      · rw [si_ne ea, si_ne ea, si_ne ea, si_ne ea]
    have ou : OW A (nOw A 5 q f o g) (si (si (si (si n1 64 (6 * f + o) (nI 2)) 64 (6 * o + f) (nI 2)) 64 (6 * f + o) (nI (A.to f o))) 64 (6 * o + f) (nI (A.to f o))) := ⟨fun x hx => by rw [si_ne (by omega), si_ne (by omega), si_ne (by omega), si_ne (by omega)]; exact c2.1 x hx, c2.2⟩
    obtain ⟨μ', r1, r2, r3, r4⟩ := fin _ (lw (A.stt f o 2) (nOw A 5 q f o g)) hb gu ou
    rw [r1]
    exact ⟨μ', rfl, r2, fun _ => ⟨r3, r4⟩⟩
  · have k1 : n1.1 62 26 = nI k := hm1.1
    have ne5 : ¬ nI k = 5 := by rw [li_5, nI_eq (by omega) (by omega)]; exact e5
    have fi := m_isFine hr1 w c2
    rw [k1, if_neg ne5, if_neg ne5]
    simp only [Option.bind_some]
    rw [fi]
    simp only [Option.bind_some]
    rw [k1, if_neg ne5]
    simp only [Option.bind_some]
    obtain ⟨μ', r1, r2, r3, r4⟩ := fin n1 (lw A (nOw A k q f o g)) hr1 c3 c2
    rw [r1]
    have : nTo A k f o = A := by unfold nTo; rw [if_neg e5]
    rw [this]
    exact ⟨μ', rfl, r2, fun _ => ⟨r3, r4⟩⟩
theorem m_isWanted {A : LV} {μ : MI} {k q f o g : Nat} (h : MR A μ) (w : WF A) (hm : MM k q f o g μ) (ht : thr_ A k q f o g) : ∃ μ', M_isWanted μ = some (wanted A k q f o g, μ') ∧ ag (fun a _ => a = 69) μ μ' := by
  have hn := w.n6
  have hp := w.p3
  have k8 := ht.1
  unfold M_isWanted
  rw [m_isAsTold h w hm ht]
  simp only [Option.bind_some]
  by_cases e6 : 6 ≤ k
  · refine ⟨μ, ?_, ag_rf _ _⟩
    have st : M_isWanted_s1 (told A k q f o g, 0, μ) = some (.inr (told A k q f o g, μ)) := by
      unfold M_isWanted_s1
      simp only []
      have c : (if (0 : Int32) < μ.1 62 5 then some (decide (μ.1 62 26 < 6)) else some false) = some false := by
        rw [hm.1, decide_eq_false (by rw [li_6]; exact nI_nlt e6 (by omega))]
        split <;> rfl
      rw [c]; rfl
    have : lp M_isWanted_s1 FUEL (told A k q f o g, 0, μ) = some (told A k q f o g, μ) := lp_seq (fun _ => (told A k q f o g, 0, μ)) 0 (by omega) (fun i hi => absurd hi (Nat.not_lt_zero _)) st
    rw [this]
    unfold wanted
    rw [decide_eq_true e6]
    simp
  · obtain ⟨r, q1, q2, q3⟩ := lp_inv (step := M_isWanted_s1) (s := (told A k q f o g, 0, μ)) (fun j t => t.1 = (told A k q f o g && al (fun x => decide (wow A A.ow x ≤ wow A (nOw A k q f o g) x)) j) ∧ t.2.1 = nI j ∧ ag (fun a _ => a = 69) μ t.2.2) (fun o' => o'.1 = (told A k q f o g && al (fun x => decide (wow A A.ow x ≤ wow A (nOw A k q f o g) x)) A.p) ∧ ag (fun a _ => a = 69) μ o'.2) A.p (by omega) ⟨by simp [al], rfl, ag_rf _ _⟩ (by
      rintro j ⟨c, i, m⟩ hj ⟨t1, t2, t3⟩
      simp only at t1 t2 t3; subst t2; subst t1
      refine Or.inl ?_
      have hr : MR A m := h.tg t3 (fun a j e => Or.inl (Or.inr (Or.inl (by omega))))
      have hmm : MM k q f o g m := hm.fr (fun j _ _ => t3.1 _ _ (by omega))
      obtain ⟨n1, c1, c2, c3⟩ := m_takeNow hr w
      have hr1 : MR A n1 := hr.tg c3 (fun a j e => Or.inl (Or.inr (Or.inl (by omega))))
      have hm1 : MM k q f o g n1 := hmm.fr (fun j _ _ => c3.1 _ _ (by omega))
      obtain ⟨n2, d1, d2, d3⟩ := m_changeOwners hr1 w hm1 ht
      have hr2 : MR A n2 := hr1.tg d3 (fun a j e => Or.inl (Or.inr (Or.inl (by omega))))
      have b1 := wow_le w A.ow hj
      have b2 := wow_le w (nOw A k q f o g) hj
      unfold M_isWanted_s1
      simp only []
      rw [hr.hp, if_pos (nI_lt hj (by omega)), hmm.1, decide_eq_true (show nI k < 6 from by rw [li_6]; exact nI_lt (by omega) (by omega))]
      simp only [Option.bind_some, if_true, c1, m_worthOf hr1 w c2 hj, d1, m_worthOf hr2 w d2 hj]
      have ec : (if (told A k q f o g && al (fun x => decide (wow A A.ow x ≤ wow A (nOw A k q f o g) x)) j) = true then some (decide (nI (wow A A.ow j) ≤ nI (wow A (nOw A k q f o g) j))) else some false) = some (told A k q f o g && al (fun x => decide (wow A A.ow x ≤ wow A (nOw A k q f o g) x)) (j + 1)) := by
        have e1 : decide (nI (wow A A.ow j) ≤ nI (wow A (nOw A k q f o g) j)) = decide (wow A A.ow j ≤ wow A (nOw A k q f o g) j) := decide_eq_decide.mpr (nI_leI (by omega) (by omega))
        rw [e1]
        show _ = some (_ && (al _ j && _))
        cases told A k q f o g
        · simp
        · cases al (fun x => decide (wow A A.ow x ≤ wow A (nOw A k q f o g) x)) j <;> simp
      rw [ec]
      simp only [Option.bind_some, li_1, nI_add]
      exact ⟨_, rfl, rfl, rfl, ag_tr t3 (ag_tr c3 d3)⟩) (by
      rintro ⟨c, i, m⟩ ⟨t1, t2, t3⟩
      simp only at t1 t2 t3; subst t2; subst t1
      have hr : MR A m := h.tg t3 (fun a j e => Or.inl (Or.inr (Or.inl (by omega))))
      refine ⟨(_, m), ?_, rfl, t3⟩
      unfold M_isWanted_s1
      simp only []
      rw [hr.hp, if_neg (nI_nlt (Nat.le_refl A.p) (by omega))]
      rfl)
    rw [q1]
    obtain ⟨c, m⟩ := r
    simp only at q2 q3
    subst q2
    refine ⟨m, ?_, q3⟩
    unfold wanted
    rw [decide_eq_false e6, Bool.false_or]
    rfl
