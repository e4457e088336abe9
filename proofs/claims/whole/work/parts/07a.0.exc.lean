def tISE : String := "java/lang/IllegalStateException"
def tIAE : String := "java/lang/IllegalArgumentException"
def xnm : List String := ["java/lang/RuntimeException", "java/lang/Exception"]
def XA1 : List Cond := vx_atS RX4 74 tISE xnm
def XA2 : List Cond := vx_atS RX9 291 tIAE xnm
def XA3 : List Cond := vx_atS RX9 298 tISE xnm
def XB : List Cond := (XA1 ++ (XA2 ++ XA3)).filter (fun w => !goodWord w)
def isCD : Cond → Bool
  | .castable .. => true
  | .declares _ => true
  | _ => false
theorem XB_cd : XB.all isCD = true := by decide +kernel
theorem XA1_good : ∀ w ∈ XA1.filter goodWord, w ∈ lw_tbl := by decide +kernel
theorem XA2_good : ∀ w ∈ XA2.filter goodWord, w ∈ lw_tbl := by decide +kernel
theorem XA3_good : ∀ w ∈ XA3.filter goodWord, w ∈ lw_tbl := by decide +kernel
theorem XB_tbl : ∀ w ∈ XB, w ∈ lw_tbl := by decide +kernel
theorem isCD_tabs {w : Cond} (h : isCD w = true) : w.onTables = true := by
  cases w <;> first | rfl | (simp [isCD] at h)
theorem isCD_warm {w : Cond} (h : isCD w = true) {s U : State} (hW : s.WarmedH U.vm) (hZ : va_Nw w s) : va_Nw w U := by
  cases w with
  | castable a b => exact va_Nw.warmC hW hZ
  | declares x => exact va_Nw.warmD hW hZ
  | _ => simp [isCD] at h
def xz (A : Nat → Prop) (U : State) : Prop := vx_Zq Bundle.tN "UNASSIGNED_STACK" Bundle.steD A U U.heap ∧ vx_Zq Bundle.tN "SUPPRESSED_SENTINEL" Bundle.listD A U U.heap ∧ (∀ w ∈ XB, va_Nw w U) ∧ va_Nc tISE tIAE U ∧
  (∃ a, vk_R RX4 72 "a move has failed" a U) ∧ (∃ a, vk_R RX9 289 "no such shelf" a U) ∧ (∃ a, vk_R RX9 296 "no row is held" a U) ∧ (∃ a, vk_R RX9 302 "no such place" a U)
theorem xz.go {A : Nat → Prop} {s U : State} {H : Heap} {locs : List Loc} (hW : s.WarmedH U.vm) (hU : U.heap = H) (hS : va_S A s.heap H locs) (h : xz A s) : xz A U := by
  obtain ⟨h1, h2, h3, h4, ⟨a1, h5⟩, ⟨a2, h6⟩, ⟨a3, h7⟩, ⟨a4, h8⟩⟩ := h
  subst hU
  exact ⟨(h1.kept (fun a ha hn => hS.2.1 a ha hn)).moved hW.alike, (h2.kept (fun a ha hn => hS.2.1 a ha hn)).moved hW.alike, fun w hw => isCD_warm (List.all_eq_true.mp XB_cd w hw) hW (h3 w hw), h4.moved hW.alike, ⟨a1, h5.warm hW⟩, ⟨a2, h6.warm hW⟩, ⟨a3, h7.warm hW⟩, ⟨a4, h8.warm hW⟩⟩
theorem xz.calls {A : Nat → Prop} {U : State} {g : JFrame} {mk : MethodId} {a : Array Value} (h : xz A U) : xz A (U.calling g mk a) := by
  obtain ⟨h1, h2, h3, h4, ⟨a1, h5⟩, ⟨a2, h6⟩, ⟨a3, h7⟩, ⟨a4, h8⟩⟩ := h
  exact ⟨vx_Zq.moved (u := U) (Vm.Alike.refl U.vm) h1, vx_Zq.moved (u := U) (Vm.Alike.refl U.vm) h2, fun w hw => va_Nw.same (u := U) (isCD_tabs (List.all_eq_true.mp XB_cd w hw)) rfl (h3 w hw), va_Nc.moved (u := U) (Vm.Alike.refl U.vm) h4, ⟨a1, vk_R.same (u := U) rfl h5⟩, ⟨a2, vk_R.same (u := U) rfl h6⟩, ⟨a3, vk_R.same (u := U) rfl h7⟩, ⟨a4, vk_R.same (u := U) rfl h8⟩⟩
theorem XA_hat {s : State} {args : Array Value} {X : List Cond} (hX : ∀ w ∈ X, w ∈ XA1 ++ (XA2 ++ XA3)) (hg : ∀ w ∈ X.filter goodWord, w ∈ lw_tbl) (hts : ∀ w ∈ TT, w.before args s = true) (h : ∀ w ∈ XB, va_Nw w s) : ∀ w ∈ X, w.before args s = true := by
  intro w hw
  by_cases g : goodWord w = true
  · exact hts w (List.mem_filter.mpr ⟨hg w (List.mem_filter.mpr ⟨hw, g⟩), g⟩)
  · have hb : w ∈ XB := List.mem_filter.mpr ⟨hX w hw, by simp [g]⟩
    exact va_Nw.use (isCD_tabs (List.all_eq_true.mp XB_cd w hb)) (h w hb)
def xP (dC : Nat → ClassId) (dI : Nat → Nat → Nat) (Y : Nat → ClassId) (ad : Nat → Nat) (A : Nat → Prop) (L : LY) (μ : MI) (U : State) : Prop := cnP dC dI Y ad A L μ U ∧ xz A U
theorem xP_blind {dC : Nat → ClassId} {dI : Nat → Nat → Nat} {Y : Nat → ClassId} {ad : Nat → Nat} {A : Nat → Prop} {L : LY} {μ : MI} {av : List Value} : FrameBlind (va_Pc av (xP dC dI Y ad A L μ)) := fun a U g mk q => by
  obtain ⟨q0, ⟨qP, qK, qA⟩, qz⟩ := q
  exact ⟨q0, ⟨qP, va_K.moved (u := U) (U := U.calling g mk a) (Vm.Alike.refl U.vm) qK, qA⟩, qz.calls⟩
theorem va_P_same {D : va_G} {cl : List vw_C} {ws : va_W} {H H1 : Heap} (hP : va_P D cl ws H) (h : ∀ q : Nat, q < H.size → H1[q]? = H[q]?) : va_P D cl ws H1 := fun k q hk => (hP k q hk).kept (h _ (hP k q hk).lt)
theorem va_F_same {A : Nat → Prop} {s t : State} {H : Heap} {locs : List Loc} (hS : va_S A s.heap H locs) (h1 : H.size ≤ t.heap.size) (h2 : ∀ q : Nat, q < H.size → t.heap[q]? = H[q]?) : va_F A s t :=
  ⟨Nat.le_trans hS.1 h1, fun q hq hn => (h2 q (Nat.lt_of_lt_of_le hq hS.1)).trans (hS.2.1 q hq hn)⟩
theorem tISE_cast : Cond.castable tISE tISE ∈ XA1 ++ (XA2 ++ XA3) := by decide +kernel
theorem tIAE_cast : Cond.castable tIAE tIAE ∈ XA1 ++ (XA2 ++ XA3) := by decide +kernel
theorem X1_in : ∀ w ∈ XA1, w ∈ XA1 ++ (XA2 ++ XA3) := fun w h => List.mem_append_left _ h
theorem X2_in : ∀ w ∈ XA2, w ∈ XA1 ++ (XA2 ++ XA3) := fun w h => List.mem_append_right _ (List.mem_append_left _ h)
theorem X3_in : ∀ w ∈ XA3, w ∈ XA1 ++ (XA2 ++ XA3) := fun w h => List.mem_append_right _ (List.mem_append_right _ h)
theorem X_all {s : State} {args : Array Value} (hts : ∀ w ∈ TT, w.before args s = true) (h : ∀ w ∈ XB, va_Nw w s) : ∀ w ∈ XA1 ++ (XA2 ++ XA3), w.before args s = true := by
  intro w hw
  rcases List.mem_append.mp hw with hw | hw
  · exact XA_hat X1_in XA1_good hts h w hw
  · rcases List.mem_append.mp hw with hw | hw
    · exact XA_hat X2_in XA2_good hts h w hw
    · exact XA_hat X3_in XA3_good hts h w hw
/-- whether the move's failure is thrown -/
def thr (t : Nat) (μ : MI) : Prop := μ.1 t 0 ≠ 6 ∧ μ.1 t 4 ≠ 0
theorem ex1 {l : List ExceptionTableEntry} {a b c d : Nat} (h : l.map (fun h => (h.startPc, h.endPc, h.handlerPc, h.catchType)) = [(a, b, c, d)]) : l = [⟨a, b, c, d⟩] := by
  cases l with
  | nil => cases h
  | cons x t =>
    cases t with
    | nil =>
      simp only [List.map_cons, List.map_nil, List.cons.injEq, Prod.mk.injEq, and_true] at h
      obtain ⟨h1, h2, h3, h4⟩ := h
      cases x
      simp_all
    | cons y t => simp at h
theorem ex2 {l : List ExceptionTableEntry} {a b c d a2 b2 c2 d2 : Nat} (h : l.map (fun h => (h.startPc, h.endPc, h.handlerPc, h.catchType)) = [(a, b, c, d), (a2, b2, c2, d2)]) : l = [⟨a, b, c, d⟩, ⟨a2, b2, c2, d2⟩] := by
  cases l with
  | nil => cases h
  | cons x t =>
    cases t with
    | nil => simp at h
    | cons y t =>
      cases t with
      | nil =>
        cases x; cases y
        simp_all
      | cons z t => simp at h
