/-! ===== the beginning, every call, the whole ===== -/
theorem INV_Z : INV μZ := by
  refine ⟨⟨((0, 0, false, false, fun _ => 0, fun _ => 0, fun _ _ => 0, fun _ => 0, fun _ => 0, fun _ _ => 0) : LV), ?_, ?_, ?_, ?_⟩, ⟨⟨fun q _ => ?_, fun q _ => ?_⟩, Or.inl ⟨rfl, rfl⟩⟩, fun d _ => ⟨0, Nat.zero_le _, rfl, rfl, fun q => absurd q (by decide), fun q => absurd q (by decide)⟩⟩
  · exact ⟨Nat.zero_le _, Nat.zero_le _, fun f hf => absurd hf (Nat.not_lt_zero f), fun f hf => absurd hf (Nat.not_lt_zero f), fun _ _ => rfl, fun _ _ => Nat.zero_le _, fun _ => rfl, fun _ _ _ => rfl, fun q hq => absurd hq (Nat.not_lt_zero q), fun q f hq _ => absurd hq (Nat.not_lt_zero q)⟩
  · exact fun q hq => absurd hq (Nat.not_lt_zero q)
  · exact ⟨rfl, rfl, rfl, rfl, fun f hf => absurd hf (Nat.not_lt_zero f), fun f hf => absurd hf (Nat.not_lt_zero f), fun _ _ _ _ => rfl, fun q hq => absurd hq (Nat.not_lt_zero q), fun q hq => absurd hq (Nat.not_lt_zero q), fun q f hq _ => absurd hq (Nat.not_lt_zero q)⟩
  · exact ⟨rfl, rfl, rfl, rfl, fun f hf => absurd hf (Nat.not_lt_zero f), fun f hf => absurd hf (Nat.not_lt_zero f), fun a b ha _ => absurd ha (Nat.not_lt_zero a), fun q hq => absurd hq (Nat.not_lt_zero q), fun q hq => absurd hq (Nat.not_lt_zero q), fun q f hq _ => absurd hq (Nat.not_lt_zero q)⟩
  · show 0 ≤ (0 : Int32).toInt
    decide
  · show 0 ≤ (0 : Int32).toInt
    decide
theorem INV_step (μ : MI) (h : INV μ) (op : Nat) (hop : op < 33) (a1 a2 a3 a4 a5 : Int32) : ∃ μ', Lc op a1 a2 a3 a4 a5 μ = some μ' ∧ INV μ' := by
  rcases (by omega : op = 0 ∨ op = 1 ∨ op = 2 ∨ op = 3 ∨ op = 4 ∨ op = 5 ∨ op = 6 ∨ op = 7 ∨ op = 8 ∨ op = 9 ∨ op = 10 ∨ op = 11 ∨ op = 12 ∨ op = 13 ∨ op = 14 ∨ op = 15 ∨ op = 16 ∨ op = 17 ∨ op = 18 ∨ op = 19 ∨ op = 20 ∨ op = 21 ∨ op = 22 ∨ op = 23 ∨ op = 24 ∨ op = 25 ∨ op = 26 ∨ op = 27 ∨ op = 28 ∨ op = 29 ∨ op = 30 ∨ op = 31 ∨ op = 32) with rfl | rfl | rfl | rfl | rfl | rfl | rfl | rfl | rfl | rfl | rfl | rfl | rfl | rfl | rfl | rfl | rfl | rfl | rfl | rfl | rfl | rfl | rfl | rfl | rfl | rfl | rfl | rfl | rfl | rfl | rfl | rfl | rfl
  · exact L_0 h a1
  · exact L_1 h a1 a2
  · exact L_2 h a1 a2
  · exact L_3 h a1 a2
  · exact L_4 h a1 a2
  · exact L_5 h a1 a2
  · exact L_6 h a1 a2
  · exact L_7 h
  · exact L_8 h
  · exact L_9 h a1 a2
  · exact L_10 h a1
  · exact L_11 h a1
  · exact L_12 h a1
  · exact L_13 h a1 a2
  · exact L_14 h a1
  · exact L_15 h a1
  · exact L_16 h a1
  · exact L_17 h a1 a2
  · exact L_18 h
  · exact L_19 h a1
  · exact L_20 h
  · exact L_21 h a1 a2
  · exact L_22 h a1 a2
  · exact L_23 h
  · exact L_24 h
  · exact L_25 h a1
  · exact L_26 h a1 a2 a3 a4
  · exact L_27 h a1 a2 a3
  · exact L_28 h a1 a2 a3
  · exact L_29 h a1 a2
  · exact L_30 h a1 a2 a3 a4 a5
  · exact L_31 h a1
  · exact L_32 h a1
theorem whole_start {p : Program} {e : Env} {s : State} {m : MethodId} {below : List Frame} {meth : Method} {c : Code} (l : Launch) (hflags : l.flags = flags0) {b L : Nat} {xs : Nat → Int32} (hL : L ≤ 384) (C0 : lw_At p s m meth c b L xs) : W p l e room_1 s m #[Value.ref b] below meth c s.heap [] 0 0 (lw_Z below #[Value.ref b] s) (entryFrame m ([Value.ref b] : List Value).toArray 8) :=
  whole_open INV INV_Z (fun μ h op ho a1 a2 a3 a4 a5 => INV_step μ h op ho a1 a2 a3 a4 a5) l hflags hL C0
