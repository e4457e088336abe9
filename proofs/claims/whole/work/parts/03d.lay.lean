/-! ===== the layout: what the two systems make, in the order in which they make it ===== -/
def LAY : LY := [
  .inl (9, [some (some 1), some (some 8), some (some 15), none, some (some 22), some (some 23), some (some 24), some (some 28), some (some 30), some (some 34), some (some 36)]),
  .inl (2, [none, none, none, none, some (some 2), some (some 3), some (some 4), some (some 5), some (some 6), some (some 7)]),
  .inr (0, 6, []),
  .inr (0, 6, []),
  .inr (0, 36, []),
  .inr (0, 3, []),
  .inr (0, 3, []),
  .inr (0, 18, []),
  .inl (2, [none, none, none, none, some (some 9), some (some 10), some (some 11), some (some 12), some (some 13), some (some 14)]),
  .inr (0, 6, []),
  .inr (0, 6, []),
  .inr (0, 36, []),
  .inr (0, 3, []),
  .inr (0, 3, []),
  .inr (0, 18, []),
  .inl (2, [none, none, none, none, some (some 16), some (some 17), some (some 18), some (some 19), some (some 20), some (some 21)]),
  .inr (0, 6, []),
  .inr (0, 6, []),
  .inr (0, 36, []),
  .inr (0, 3, []),
  .inr (0, 3, []),
  .inr (0, 18, []),
  .inr (3, 8, [some 38, some 41, some 44, some 47, some 50, some 53, some 56, some 59]),
  .inl (3, [none, none, none, none, none, none]),
  .inl (7, [none, none, some (some 25), some (some 26), some (some 27)]),
  .inr (0, 6, []),
  .inr (0, 6, []),
  .inr (0, 7, []),
  .inl (5, [some (some 29)]),
  .inr (0, 6, []),
  .inl (0, [some (some 31), some (some 32), none, some (some 33)]),
  .inr (0, 128, []),
  .inr (0, 729, []),
  .inr (0, 6, []),
  .inl (6, [some (some 35)]),
  .inr (0, 6, []),
  .inl (1, [none, some (some 37)]),
  .inr (0, 8, []),
  .inl (8, [none, none, none, some (some 39), some (some 40)]),
  .inl (4, [none, none, none, none, none]),
  .inr (0, 100, []),
  .inl (8, [none, none, none, some (some 42), some (some 43)]),
  .inl (4, [none, none, none, none, none]),
  .inr (0, 100, []),
  .inl (8, [none, none, none, some (some 45), some (some 46)]),
  .inl (4, [none, none, none, none, none]),
  .inr (0, 100, []),
  .inl (8, [none, none, none, some (some 48), some (some 49)]),
  .inl (4, [none, none, none, none, none]),
  .inr (0, 100, []),
  .inl (8, [none, none, none, some (some 51), some (some 52)]),
  .inl (4, [none, none, none, none, none]),
  .inr (0, 100, []),
  .inl (8, [none, none, none, some (some 54), some (some 55)]),
  .inl (4, [none, none, none, none, none]),
  .inr (0, 100, []),
  .inl (8, [none, none, none, some (some 57), some (some 58)]),
  .inl (4, [none, none, none, none, none]),
  .inr (0, 100, []),
  .inl (8, [none, none, none, some (some 60), some (some 61)]),
  .inl (4, [none, none, none, none, none]),
  .inr (0, 100, []),
  .inl (10, [none, some (some 63), some (some 64), none, none, none, some (some 65), some (some 66), some (some 67), some (some 68), none, some (some 69), none, none, none, none, none, some (some 70), some (some 71), some (some 72), some (some 73), some (some 74), none, none, none, none, none, some (some 75), some (some 76), none, none, some (some 77), some (some 78), some (some 79), some (some 80), some (some 81), some (some 82), none, some (some 83), some (some 84), none, none, some (some 85), some (some 86), some (some 87), some (some 88), some (some 89), some (some 90), some (some 91)]),
  .inr (0, 6, []),
  .inr (0, 36, []),
  .inr (0, 3, []),
  .inr (0, 3, []),
  .inr (0, 18, []),
  .inr (0, 6, []),
  .inr (0, 6, []),
  .inr (0, 51, []),
  .inr (0, 51, []),
  .inr (0, 51, []),
  .inr (0, 51, []),
  .inr (0, 51, []),
  .inr (0, 3, []),
  .inr (0, 6, []),
  .inr (0, 4096, []),
  .inr (0, 4096, []),
  .inr (1, 1458, []),
  .inr (0, 1458, []),
  .inr (0, 6, []),
  .inr (1, 1458, []),
  .inr (0, 80, []),
  .inr (0, 80, []),
  .inr (0, 8, []),
  .inr (0, 8, []),
  .inr (0, 8, []),
  .inr (0, 8, []),
  .inr (0, 8, []),
  .inr (2, 800, []),
  .inr (2, 100, []),
  .inr (2, 1, [])]
theorem ol_0 : LAY[0]? = some (.inl (9, [some (some 1), some (some 8), some (some 15), none, some (some 22), some (some 23), some (some 24), some (some 28), some (some 30), some (some 34), some (some 36)])) := rfl
theorem al_2 : LAY[2]? = some (.inr (0, 6, [])) := rfl
theorem al_3 : LAY[3]? = some (.inr (0, 6, [])) := rfl
theorem al_4 : LAY[4]? = some (.inr (0, 36, [])) := rfl
theorem al_5 : LAY[5]? = some (.inr (0, 3, [])) := rfl
theorem al_6 : LAY[6]? = some (.inr (0, 3, [])) := rfl
theorem al_7 : LAY[7]? = some (.inr (0, 18, [])) := rfl
theorem al_9 : LAY[9]? = some (.inr (0, 6, [])) := rfl
theorem al_10 : LAY[10]? = some (.inr (0, 6, [])) := rfl
theorem al_11 : LAY[11]? = some (.inr (0, 36, [])) := rfl
theorem al_12 : LAY[12]? = some (.inr (0, 3, [])) := rfl
theorem al_13 : LAY[13]? = some (.inr (0, 3, [])) := rfl
theorem al_14 : LAY[14]? = some (.inr (0, 18, [])) := rfl
theorem al_16 : LAY[16]? = some (.inr (0, 6, [])) := rfl
theorem al_17 : LAY[17]? = some (.inr (0, 6, [])) := rfl
theorem al_18 : LAY[18]? = some (.inr (0, 36, [])) := rfl
theorem al_19 : LAY[19]? = some (.inr (0, 3, [])) := rfl
theorem al_20 : LAY[20]? = some (.inr (0, 3, [])) := rfl
theorem al_21 : LAY[21]? = some (.inr (0, 18, [])) := rfl
theorem al_22 : LAY[22]? = some (.inr (3, 8, [some 38, some 41, some 44, some 47, some 50, some 53, some 56, some 59])) := rfl
theorem ol_23 : LAY[23]? = some (.inl (3, [none, none, none, none, none, none])) := rfl
theorem ol_24 : LAY[24]? = some (.inl (7, [none, none, some (some 25), some (some 26), some (some 27)])) := rfl
theorem al_25 : LAY[25]? = some (.inr (0, 6, [])) := rfl
theorem al_26 : LAY[26]? = some (.inr (0, 6, [])) := rfl
theorem al_27 : LAY[27]? = some (.inr (0, 7, [])) := rfl
theorem ol_28 : LAY[28]? = some (.inl (5, [some (some 29)])) := rfl
theorem al_29 : LAY[29]? = some (.inr (0, 6, [])) := rfl
theorem ol_30 : LAY[30]? = some (.inl (0, [some (some 31), some (some 32), none, some (some 33)])) := rfl
theorem al_31 : LAY[31]? = some (.inr (0, 128, [])) := rfl
theorem al_32 : LAY[32]? = some (.inr (0, 729, [])) := rfl
theorem al_33 : LAY[33]? = some (.inr (0, 6, [])) := rfl
theorem ol_34 : LAY[34]? = some (.inl (6, [some (some 35)])) := rfl
theorem al_35 : LAY[35]? = some (.inr (0, 6, [])) := rfl
theorem ol_36 : LAY[36]? = some (.inl (1, [none, some (some 37)])) := rfl
theorem al_37 : LAY[37]? = some (.inr (0, 8, [])) := rfl
theorem al_40 : LAY[40]? = some (.inr (0, 100, [])) := rfl
theorem al_43 : LAY[43]? = some (.inr (0, 100, [])) := rfl
theorem al_46 : LAY[46]? = some (.inr (0, 100, [])) := rfl
theorem al_49 : LAY[49]? = some (.inr (0, 100, [])) := rfl
theorem al_52 : LAY[52]? = some (.inr (0, 100, [])) := rfl
theorem al_55 : LAY[55]? = some (.inr (0, 100, [])) := rfl
theorem al_58 : LAY[58]? = some (.inr (0, 100, [])) := rfl
theorem al_61 : LAY[61]? = some (.inr (0, 100, [])) := rfl
theorem ol_62 : LAY[62]? = some (.inl (10, [none, some (some 63), some (some 64), none, none, none, some (some 65), some (some 66), some (some 67), some (some 68), none, some (some 69), none, none, none, none, none, some (some 70), some (some 71), some (some 72), some (some 73), some (some 74), none, none, none, none, none, some (some 75), some (some 76), none, none, some (some 77), some (some 78), some (some 79), some (some 80), some (some 81), some (some 82), none, some (some 83), some (some 84), none, none, some (some 85), some (some 86), some (some 87), some (some 88), some (some 89), some (some 90), some (some 91)])) := rfl
theorem al_63 : LAY[63]? = some (.inr (0, 6, [])) := rfl
theorem al_64 : LAY[64]? = some (.inr (0, 36, [])) := rfl
theorem al_65 : LAY[65]? = some (.inr (0, 3, [])) := rfl
theorem al_66 : LAY[66]? = some (.inr (0, 3, [])) := rfl
theorem al_67 : LAY[67]? = some (.inr (0, 18, [])) := rfl
theorem al_68 : LAY[68]? = some (.inr (0, 6, [])) := rfl
theorem al_69 : LAY[69]? = some (.inr (0, 6, [])) := rfl
theorem al_70 : LAY[70]? = some (.inr (0, 51, [])) := rfl
theorem al_71 : LAY[71]? = some (.inr (0, 51, [])) := rfl
theorem al_72 : LAY[72]? = some (.inr (0, 51, [])) := rfl
theorem al_73 : LAY[73]? = some (.inr (0, 51, [])) := rfl
theorem al_74 : LAY[74]? = some (.inr (0, 51, [])) := rfl
theorem al_75 : LAY[75]? = some (.inr (0, 3, [])) := rfl
theorem al_76 : LAY[76]? = some (.inr (0, 6, [])) := rfl
theorem al_77 : LAY[77]? = some (.inr (0, 4096, [])) := rfl
theorem al_78 : LAY[78]? = some (.inr (0, 4096, [])) := rfl
theorem al_79 : LAY[79]? = some (.inr (1, 1458, [])) := rfl
theorem al_80 : LAY[80]? = some (.inr (0, 1458, [])) := rfl
theorem al_81 : LAY[81]? = some (.inr (0, 6, [])) := rfl
theorem al_82 : LAY[82]? = some (.inr (1, 1458, [])) := rfl
theorem al_83 : LAY[83]? = some (.inr (0, 80, [])) := rfl
theorem al_84 : LAY[84]? = some (.inr (0, 80, [])) := rfl
theorem al_85 : LAY[85]? = some (.inr (0, 8, [])) := rfl
theorem al_86 : LAY[86]? = some (.inr (0, 8, [])) := rfl
theorem al_87 : LAY[87]? = some (.inr (0, 8, [])) := rfl
theorem al_88 : LAY[88]? = some (.inr (0, 8, [])) := rfl
theorem al_89 : LAY[89]? = some (.inr (0, 8, [])) := rfl
theorem al_90 : LAY[90]? = some (.inr (2, 800, [])) := rfl
theorem al_91 : LAY[91]? = some (.inr (2, 100, [])) := rfl
theorem al_92 : LAY[92]? = some (.inr (2, 1, [])) := rfl
def isLand (t : Nat) : Prop := t = 1 ∨ t = 8 ∨ t = 15
abbrev slLand (t : Nat) : List (Option (Option Nat)) := [none, none, none, none, some (some (t + 1)), some (some (t + 2)), some (some (t + 3)), some (some (t + 4)), some (some (t + 5)), some (some (t + 6))]
theorem olLand {t : Nat} (h : isLand t) : LAY[t]? = some (.inl (2, slLand t)) := by
  rcases h with rfl | rfl | rfl <;> rfl
theorem alLand1 {t : Nat} (h : isLand t) : LAY[t + 1]? = some (.inr (0, 6, [])) := by
  rcases h with rfl | rfl | rfl <;> rfl
theorem alLand2 {t : Nat} (h : isLand t) : LAY[t + 2]? = some (.inr (0, 6, [])) := by
  rcases h with rfl | rfl | rfl <;> rfl
theorem alLand3 {t : Nat} (h : isLand t) : LAY[t + 3]? = some (.inr (0, 36, [])) := by
  rcases h with rfl | rfl | rfl <;> rfl
theorem alLand4 {t : Nat} (h : isLand t) : LAY[t + 4]? = some (.inr (0, 3, [])) := by
  rcases h with rfl | rfl | rfl <;> rfl
theorem alLand5 {t : Nat} (h : isLand t) : LAY[t + 5]? = some (.inr (0, 3, [])) := by
  rcases h with rfl | rfl | rfl <;> rfl
theorem alLand6 {t : Nat} (h : isLand t) : LAY[t + 6]? = some (.inr (0, 18, [])) := by
  rcases h with rfl | rfl | rfl <;> rfl
theorem isLand_1 : isLand 1 := by unfold isLand; omega
theorem isLand_8 : isLand 8 := by unfold isLand; omega
theorem isLand_15 : isLand 15 := by unfold isLand; omega
def isMove (t : Nat) : Prop := ∃ q : Nat, q < 8 ∧ t = 39 + 3 * q
abbrev slMove (t : Nat) : List (Option (Option Nat)) := [none, none, none, none, none]
theorem olMove {t : Nat} (h : isMove t) : LAY[t]? = some (.inl (4, slMove t)) := by
  obtain ⟨q, h1, rfl⟩ := h
  rcases (by omega : q = 0 ∨ q = 1 ∨ q = 2 ∨ q = 3 ∨ q = 4 ∨ q = 5 ∨ q = 6 ∨ q = 7) with rfl | rfl | rfl | rfl | rfl | rfl | rfl | rfl <;> rfl
def isShelf (t : Nat) : Prop := ∃ q : Nat, q < 8 ∧ t = 38 + 3 * q
abbrev slShelf (t : Nat) : List (Option (Option Nat)) := [none, none, none, some (some (t + 1)), some (some (t + 2))]
theorem olShelf {t : Nat} (h : isShelf t) : LAY[t]? = some (.inl (8, slShelf t)) := by
  obtain ⟨q, h1, rfl⟩ := h
  rcases (by omega : q = 0 ∨ q = 1 ∨ q = 2 ∨ q = 3 ∨ q = 4 ∨ q = 5 ∨ q = 6 ∨ q = 7) with rfl | rfl | rfl | rfl | rfl | rfl | rfl | rfl <;> rfl
theorem alShelf2 {t : Nat} (h : isShelf t) : LAY[t + 2]? = some (.inr (0, 100, [])) := by
  obtain ⟨q, h1, rfl⟩ := h
  rcases (by omega : q = 0 ∨ q = 1 ∨ q = 2 ∨ q = 3 ∨ q = 4 ∨ q = 5 ∨ q = 6 ∨ q = 7) with rfl | rfl | rfl | rfl | rfl | rfl | rfl | rfl <;> rfl
theorem isMove_of {t : Nat} (h : isShelf t) : isMove (t + 1) := by
  obtain ⟨q, h1, rfl⟩ := h
  exact ⟨q, h1, by omega⟩
def N_shelfAt (d : Int32) : Option Nat := if 0 ≤ d ∧ d.toNatClampNeg < 8 then some (38 + 3 * d.toNatClampNeg) else none
def onN {α : Type} (o : Option Nat) (a : α) (f : Nat → α) : α := match o with
  | none => a
  | some s => f s
theorem onNn {α : Type} {o : Option Nat} {a r : α} {f : Nat → α} (ho : o = none) (h : onN o a f = r) : a = r := by subst ho; exact h
theorem onNs {α : Type} {o : Option Nat} {a r : α} {f : Nat → α} {s : Nat} (ho : o = some s) (h : onN o a f = r) : f s = r := by subst ho; exact h
theorem isShelf_at {d : Int32} {s : Nat} (h : N_shelfAt d = some s) : isShelf s := by
  unfold N_shelfAt at h; split at h
  · rename_i q; cases h; exact ⟨_, q.2, rfl⟩
  · cases h
