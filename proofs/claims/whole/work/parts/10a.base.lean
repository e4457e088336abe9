/-! ===== loops with an end that is known ===== -/
theorem lp_seq0 {σ ρ : Type} {step : σ → Option (σ ⊕ ρ)} (f : Nat → σ) (r : ρ) : ∀ (j k F : Nat), j < F → (∀ i, k ≤ i → i < k + j → step (f i) = some (.inl (f (i + 1)))) → step (f (k + j)) = some (.inr r) → lp step F (f k) = some r
  | 0, k, F + 1, _, _, he => by unfold lp; rw [show k = k + 0 from rfl, he]
  | j + 1, k, F + 1, hF, hs, he => by
    unfold lp
    rw [hs k (Nat.le_refl _) (by omega)]
    exact lp_seq0 f r j (k + 1) F (by omega) (fun i h1 h2 => hs i (by omega) (by omega)) (by rw [show k + 1 + j = k + (j + 1) by omega]; exact he)
theorem lp_seq {σ ρ : Type} {step : σ → Option (σ ⊕ ρ)} (f : Nat → σ) (N : Nat) {r : ρ} (hN : N < 50000) (hs : ∀ i, i < N → step (f i) = some (.inl (f (i + 1)))) (he : step (f N) = some (.inr r)) : lp step FUEL (f 0) = some r :=
  lp_seq0 f r N 0 FUEL hN (fun i _ h => hs i (by omega)) (by rw [Nat.zero_add]; exact he)
theorem lp_inv0 {σ ρ : Type} {step : σ → Option (σ ⊕ ρ)} (I : Nat → σ → Prop) (Post : ρ → Prop) (N : Nat)
    (hs : ∀ k s, k < N → I k s → (∃ s', step s = some (.inl s') ∧ I (k + 1) s') ∨ (∃ r, step s = some (.inr r) ∧ Post r)) (he : ∀ s, I N s → ∃ r, step s = some (.inr r) ∧ Post r) :
    ∀ (j k F : Nat) (s : σ), k + j = N → j < F → I k s → ∃ r, lp step F s = some r ∧ Post r
  | 0, k, F + 1, s, hk, _, h => by
    have hk : k = N := by omega
    subst hk
    obtain ⟨r, h1, h2⟩ := he s h
    exact ⟨r, by unfold lp; rw [h1], h2⟩
  | j + 1, k, F + 1, s, hk, hF, h => by
    rcases hs k s (by omega) h with ⟨s', h1, h2⟩ | ⟨r, h1, h2⟩
    · obtain ⟨r, g1, g2⟩ := lp_inv0 I Post N hs he j (k + 1) F s' (by omega) (by omega) h2
      exact ⟨r, by unfold lp; rw [h1]; exact g1, g2⟩
    · exact ⟨r, by unfold lp; rw [h1], h2⟩
theorem lp_inv {σ ρ : Type} {step : σ → Option (σ ⊕ ρ)} (I : Nat → σ → Prop) (Post : ρ → Prop) (N : Nat) (hN : N < 50000) {s : σ} (h0 : I 0 s)
    (hs : ∀ k s, k < N → I k s → (∃ s', step s = some (.inl s') ∧ I (k + 1) s') ∨ (∃ r, step s = some (.inr r) ∧ Post r)) (he : ∀ s, I N s → ∃ r, step s = some (.inr r) ∧ Post r) : ∃ r, lp step FUEL s = some r ∧ Post r :=
  lp_inv0 I Post N hs he N 0 FUEL s (by omega) hN h0
theorem lp_ex0 {σ ρ : Type} {step : σ → Option (σ ⊕ ρ)} (f : Nat → σ) (r : ρ) (K N : Nat) (hK : K ≤ N) (hN : N < 50000) (hs : ∀ i, i < K → step (f i) = some (.inl (f (i + 1)))) (he : step (f K) = some (.inr r)) : lp step FUEL (f 0) = some r :=
  lp_seq f K (by omega) hs he
/-- numbers -/
def iI (z : Int) : Int32 := Int32.ofInt z
theorem iI_nat (n : Nat) : iI (n : Int) = nI n := by
  unfold iI nI
  first | exact Int32.ofInt_eq_ofNat | exact (Int32.ofNat_eq_ofInt n).symm | rfl | (apply Int32.toBitVec_inj.mp; simp)
theorem iI_add (a b : Int) : iI a + iI b = iI (a + b) := (Int32.ofInt_add a b).symm
theorem iI_sub (a b : Int) : iI a - iI b = iI (a - b) := (Int32.ofInt_sub a b).symm
theorem iI_mul (a b : Int) : iI a * iI b = iI (a * b) := (Int32.ofInt_mul a b).symm
theorem iI_neg (a : Int) : -iI a = iI (-a) := (Int32.ofInt_neg a).symm
theorem iI_toInt {z : Int} (h1 : -2147483648 ≤ z) (h2 : z < 2147483648) : (iI z).toInt = z := by
  unfold iI
  exact Int32.toInt_ofInt_of_le (by omega) (by omega)
