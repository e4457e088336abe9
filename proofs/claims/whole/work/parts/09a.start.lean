/-! THE CLAIM OUT OF ONE WALK OF THE LAW'S BODY. Your part is whole_start (and what it stands on); all else here is the same for every law, but numbers. -/
def R_law : String := "NoTwoTouchLaw"
def lw_P (b : Addr) (xs : List Int32) (args : Array Value) (s : State) : Prop := args = #[.ref b] ∧ s.IntsAt b xs ∧ xs.length ≤ 384 ∧ (Jvm.Cond.and given_1 narrow_1).before args s = true
def lw_Q (_ : Array Value) (s : State) (o : Outcome) (t : State) : Prop := o = .returned (some (.int 1)) ∧ Framed s o t [] 600128 7301098
def lw_Z (below : List Frame) (a : Array Value) (s : State) : State → Prop := fun t => ∃ o, t.status = .running ∧ Ended t below o ∧ lw_Q a s o t
/-- the law's own end, with 1 on the stack, nothing written that was there before, its room as the claim has it -/
theorem lw_ret {p : Program} {l : Launch} {e : Env} {s : State} {m : MethodId} {below : List Frame} {meth : Method} {c : Code} {b : Nat} (hx : p.tables.exec = Jvm.exec) (hb : c.code = code) (hr : meth.sig.returnType = ret) (hlocks : meth.locks = false) {pc : Nat} {H : Heap} {ls : Array Slot} (hdg : decode code pc = .ok (.ireturn, 1)) : W p l e room_1 s m #[Value.ref b] below meth c H [] 600128 7301098 (lw_Z below #[Value.ref b] s) (F0 m pc ls [.int 1]) := by
  intro T hT X
  obtain ⟨fs, hret, hrun, hended, hW, hframe⟩ := X.leave (v := some (.int 1)) (hlocks := hlocks) (fun h => by rw [hr] at h; cases h)
  have hmeth' : T.vm.method? m = some meth := X.method'
  refine ⟨T.setFrames fs, ?_, .returned (some (.int 1)), hrun, hended, rfl, ⟨_, rfl⟩, hW, hframe⟩
  jvm_step X.here [X.here.top, hx, hb, hdg, hmeth', hr, ret, narrow_b1]
  (try refine ⟨rfl, ?_⟩); (try refine ⟨rfl, ?_⟩)
  first | (intro acts; rw [hret _ acts rfl rfl rfl]) | rw [hret _ _ rfl rfl rfl]
  exact Steps.refl _
/-- what holds at the law's entry: the machine, the code, the tables' words (any of lw_tbl by 'hts w (by decide +kernel)'), the script of L ints xs at the cell b, what the Statement gives of the start (any of its parts by flat_of_before) -/
def lw_At (p : Program) (s : State) (m : MethodId) (meth : Method) (c : Code) (b L : Nat) (xs : Nat → Int32) : Prop :=
  p.tables.exec = Jvm.exec ∧ c.code = code ∧ meth.sig.returnType = ret ∧ c.maxLocals = 8 ∧ s.vm.findClass R_law = some m.cls ∧ (∀ w ∈ lw_tbl, w.before #[Value.ref b] s = true) ∧ va_X b L xs s s.heap ∧ b < s.heap.size ∧ meth.locks = false ∧ (Jvm.Cond.and given_1 narrow_1).before #[Value.ref b] s = true
theorem clXL_8 : Cond.classLink RL 8 RX9 ∈ TT := TT_at 21 (by decide +kernel) (by decide +kernel)
theorem clXL_18 : Cond.classLink RL 18 RX10 ∈ TT := TT_at 964 (by decide +kernel) (by decide +kernel)
theorem inX9 : Cond.instantiable RX9 11 ∈ TT := TT_at 22 (by decide +kernel) (by decide +kernel)
theorem iiX9 : Cond.initialized RX9 ∈ TT := TT_at 1 (by decide +kernel) (by decide +kernel)
theorem inX10 : Cond.instantiable RX10 49 ∈ TT := TT_at 965 (by decide +kernel) (by decide +kernel)
theorem iiX10 : Cond.initialized RX10 ∈ TT := TT_at 11 (by decide +kernel) (by decide +kernel)
theorem ckXL_17 : (∃ host, (RL, 17, yX9_init, host) ∈ NK) ∨ Cond.methodLink RL 17 yX9_init ∈ TT := Or.inr (TT_at 23 (by decide +kernel) (by decide +kernel))
theorem ckXL_20 : (∃ host, (RL, 20, yX10_init, host) ∈ NK) ∨ Cond.methodLink RL 20 yX10_init ∈ TT := Or.inr (TT_at 966 (by decide +kernel) (by decide +kernel))
theorem LK_LAY : LK183 = LAY := by decide +kernel
set_option maxRecDepth 100000 in
set_option maxHeartbeats 8000000 in
theorem whole_open {p : Program} {e : Env} {s : State} {m : MethodId} {below : List Frame} {meth : Method} {c : Code} (INV : MI → Prop) (h0 : INV μZ) (hstep : ∀ μ, INV μ → ∀ op, op < 33 → ∀ a1 a2 a3 a4 a5, ∃ μ', Lc op a1 a2 a3 a4 a5 μ = some μ' ∧ INV μ')
    (l : Launch) (hflags : l.flags = flags0) {b L : Nat} {xs : Nat → Int32} (hL : L ≤ 384) (C0 : lw_At p s m meth c b L xs) : W p l e room_1 s m #[Value.ref b] below meth c s.heap [] 0 0 (lw_Z below #[Value.ref b] s) (entryFrame m ([Value.ref b] : List Value).toArray 8) := by
  obtain ⟨hx, hb, hr, hml, hown, hts, hX, hbl, hlocks, hgv⟩ := id C0
  have hst : l.stackTraces = false := by unfold Launch.stackTraces; rw [hflags]; decide +kernel
  obtain ⟨c0, iS0, hKn0⟩ := u_known (C := RX0) (T := TX0) (N := 4) (n := 4) hts (fun w hw => TT_tbl (uwX0 w hw)) (hts (.instantiable RX0 4) (TT_tbl inX0))
  obtain ⟨c1, iS1, hKn1⟩ := u_known (C := RX1) (T := TX1) (N := 2) (n := 2) hts (fun w hw => TT_tbl (uwX1 w hw)) (hts (.instantiable RX1 2) (TT_tbl inX1))
  obtain ⟨c2, iS2, hKn2⟩ := u_known (C := RX2) (T := TX2) (N := 10) (n := 10) hts (fun w hw => TT_tbl (uwX2 w hw)) (hts (.instantiable RX2 10) (TT_tbl inX2))
  obtain ⟨c3, iS3, hKn3⟩ := u_known (C := RX3) (T := TX3) (N := 6) (n := 6) hts (fun w hw => TT_tbl (uwX3 w hw)) (hts (.instantiable RX3 6) (TT_tbl inX3))
  obtain ⟨c4, iS4, hKn4⟩ := u_known (C := RX4) (T := TX4) (N := 5) (n := 5) hts (fun w hw => TT_tbl (uwX4 w hw)) (hts (.instantiable RX4 5) (TT_tbl inX4))
  obtain ⟨c5, iS5, hKn5⟩ := u_known (C := RX5) (T := TX5) (N := 1) (n := 1) hts (fun w hw => TT_tbl (uwX5 w hw)) (hts (.instantiable RX5 1) (TT_tbl inX5))
  obtain ⟨c6, iS6, hKn6⟩ := u_known (C := RX6) (T := TX6) (N := 1) (n := 1) hts (fun w hw => TT_tbl (uwX6 w hw)) (hts (.instantiable RX6 1) (TT_tbl inX6))
  obtain ⟨c7, iS7, hKn7⟩ := u_known (C := RX7) (T := TX7) (N := 5) (n := 5) hts (fun w hw => TT_tbl (uwX7 w hw)) (hts (.instantiable RX7 5) (TT_tbl inX7))
  obtain ⟨c8, iS8, hKn8⟩ := u_known (C := RX8) (T := TX8) (N := 5) (n := 5) hts (fun w hw => TT_tbl (uwX8 w hw)) (hts (.instantiable RX8 5) (TT_tbl inX8))
  obtain ⟨c9, iS9, hKn9⟩ := u_known (C := RX9) (T := TX9) (N := 11) (n := 11) hts (fun w hw => TT_tbl (uwX9 w hw)) (hts (.instantiable RX9 11) (TT_tbl inX9))
  obtain ⟨c10, iS10, hKn10⟩ := u_known (C := RX10) (T := TX10) (N := 49) (n := 49) hts (fun w hw => TT_tbl (uwX10 w hw)) (hts (.instantiable RX10 49) (TT_tbl inX10))
  obtain ⟨dC, dI, hKc⟩ : ∃ (dC : Nat → ClassId) (dI : Nat → Nat → Nat), ∀ (k : Nat) (q : vw_C), vwCl[k]? = some q → u_Kn s q.1 q.2.1 q.2.2 (dC k) (dI k) := by
    refine ⟨fun k => if k = 0 then c0 else if k = 1 then c1 else if k = 2 then c2 else if k = 3 then c3 else if k = 4 then c4 else if k = 5 then c5 else if k = 6 then c6 else if k = 7 then c7 else if k = 8 then c8 else if k = 9 then c9 else c10, fun k => if k = 0 then iS0 else if k = 1 then iS1 else if k = 2 then iS2 else if k = 3 then iS3 else if k = 4 then iS4 else if k = 5 then iS5 else if k = 6 then iS6 else if k = 7 then iS7 else if k = 8 then iS8 else if k = 9 then iS9 else iS10, ?_⟩
    intro k q hq
    match k, hq with
    | 0, hq => cases hq; exact hKn0
    | 1, hq => cases hq; exact hKn1
    | 2, hq => cases hq; exact hKn2
    | 3, hq => cases hq; exact hKn3
    | 4, hq => cases hq; exact hKn4
    | 5, hq => cases hq; exact hKn5
    | 6, hq => cases hq; exact hKn6
    | 7, hq => cases hq; exact hKn7
    | 8, hq => cases hq; exact hKn8
    | 9, hq => cases hq; exact hKn9
    | 10, hq => cases hq; exact hKn10
    | k + 11, hq => simp [vwCl] at hq
  obtain ⟨y0, ky0, cy0, f1, f2, f3⟩ := Cond.arrayClass_spec (hts _ (TT_tbl ac_int))
  obtain ⟨y1, ky1, cy1, g1, g2, g3⟩ := Cond.arrayClass_spec (hts _ (TT_tbl ac_boolean))
  obtain ⟨y2, ky2, cy2, i1, i2, i3⟩ := Cond.arrayClass_spec (hts _ (TT_tbl ac_long))
  have hao : va_AO RX8 s := va_AO.of (hts (.arrayOver (.object RX8)) (List.mem_append_right _ (List.mem_of_getElem? (i := 76) (by decide +kernel))))
  obtain ⟨cy3, y3, ky3, j1, j2, j3, j4, j5⟩ := Cond.arrayOver_spec (hao.use (A := #[]))
  have hK : va_K (dC, dI) vwCl (tysOf (fun k => if k = 0 then y0 else if k = 1 then y1 else if k = 2 then y2 else y3)) s := by
    refine ⟨hKc, fun k q hq => ?_⟩
    match k, hq with
    | 0, hq => cases hq; exact ⟨fun N z => ⟨(fun k h => by cases h), ky0, f2, cy0, f3⟩, f1⟩
    | 1, hq => cases hq; exact ⟨fun N z => ⟨(fun k h => by cases h), ky1, g2, cy1, g3⟩, g1⟩
    | 2, hq => cases hq; exact ⟨fun N z => ⟨(fun k h => by cases h), ky2, i2, cy2, i3⟩, i1⟩
    | 3, hq => cases hq; exact ⟨fun N z => ⟨(fun k h => by cases h), ky3, j3, cy3, j4⟩, ⟨ky3, cy3, j3, j4, j1, j5⟩⟩
    | k + 4, hq => simp at hq
  have s72 : ∃ a, vk_R RX4 72 "a move has failed" a s := by
    have h9 := hts (.stringRef RX4 72 "a move has failed") (List.mem_append_right _ (List.mem_of_getElem? (i := 903) (by decide +kernel)))
    obtain ⟨_, _, _, a9, -, -, -, -, -, hev⟩ := Cond.stringRef_spec (hKn4.2.1) h9
    exact ⟨a9, vk_R.of h9 hev⟩
  have s289 : ∃ a, vk_R RX9 289 "no such shelf" a s := by
    have h9 := hts (.stringRef RX9 289 "no such shelf") (List.mem_append_right _ (List.mem_of_getElem? (i := 953) (by decide +kernel)))
    obtain ⟨_, _, _, a9, -, -, -, -, -, hev⟩ := Cond.stringRef_spec (hKn9.2.1) h9
    exact ⟨a9, vk_R.of h9 hev⟩
  have s296 : ∃ a, vk_R RX9 296 "no row is held" a s := by
    have h9 := hts (.stringRef RX9 296 "no row is held") (List.mem_append_right _ (List.mem_of_getElem? (i := 960) (by decide +kernel)))
    obtain ⟨_, _, _, a9, -, -, -, -, -, hev⟩ := Cond.stringRef_spec (hKn9.2.1) h9
    exact ⟨a9, vk_R.of h9 hev⟩
  have s302 : ∃ a, vk_R RX9 302 "no such place" a s := by
    have h9 := hts (.stringRef RX9 302 "no such place") (List.mem_append_right _ (List.mem_of_getElem? (i := 963) (by decide +kernel)))
    obtain ⟨_, _, _, a9, -, -, -, -, -, hev⟩ := Cond.stringRef_spec (hKn9.2.1) h9
    exact ⟨a9, vk_R.of h9 hev⟩
  have hs9 := flat_of_before _ hgv
  have hA9 : ∀ a : Nat, a < s.heap.size → ¬ (fun q : Nat => s.heap.size ≤ q) a := fun a h1 h2 => absurd h1 (Nat.not_lt.mpr h2)
  have hT9 : (Cond.initialized "java/lang/Throwable").before #[Value.ref b] s = true := hts _ (List.mem_append_right _ (List.mem_of_getElem? (i := 16) (by decide +kernel)))
  have hxz : xz (fun q : Nat => s.heap.size ≤ q) s := ⟨vx_Zqof (hts (.laysStatic Bundle.tN "UNASSIGNED_STACK" Bundle.steD) (List.mem_append_right _ (List.mem_of_getElem? (i := 890) (by decide +kernel)))) hT9 (hs9 _ (by decide +kernel)) hA9, vx_Zqof (hts (.laysStatic Bundle.tN "SUPPRESSED_SENTINEL" Bundle.listD) (List.mem_append_right _ (List.mem_of_getElem? (i := 892) (by decide +kernel)))) hT9 (hs9 _ (by decide +kernel)) hA9,
    fun w hw => va_Nw.of (isCD_tabs (List.all_eq_true.mp XB_cd w hw)) (hts w (XB_tbl w hw)), va_Nc.of (hs9 (.not (.castable tISE tIAE)) (by decide +kernel)), s72, s289, s296, s302⟩
  have hnw : nwOK s := by
    refine ⟨hao, fun q hq => va_Nw.of rfl (A := #[Value.ref b]) ?_⟩
    simp only [NK, List.mem_cons, List.not_mem_nil, or_false] at hq
    rcases hq with rfl | rfl | rfl | rfl | rfl | rfl | rfl | rfl | rfl
    all_goals first
    | exact hts _ (List.mem_append_right _ (List.mem_of_getElem? (i := 31) (by decide +kernel)))
    | exact hts _ (List.mem_append_right _ (List.mem_of_getElem? (i := 79) (by decide +kernel)))
    | exact hts _ (List.mem_append_right _ (List.mem_of_getElem? (i := 104) (by decide +kernel)))
    | exact hts _ (List.mem_append_right _ (List.mem_of_getElem? (i := 127) (by decide +kernel)))
    | exact hts _ (List.mem_append_right _ (List.mem_of_getElem? (i := 137) (by decide +kernel)))
    | exact hts _ (List.mem_append_right _ (List.mem_of_getElem? (i := 156) (by decide +kernel)))
    | exact hts _ (List.mem_append_right _ (List.mem_of_getElem? (i := 166) (by decide +kernel)))
    | exact hts _ (List.mem_append_right _ (List.mem_of_getElem? (i := 178) (by decide +kernel)))
    | exact hts _ (List.mem_append_right _ (List.mem_of_getElem? (i := 184) (by decide +kernel)))
  obtain ⟨Γ, hΓ⟩ : ∃ Γ : GT, Γ = (p, l, e, room_1, s, m, #[Value.ref b], below, meth, c, lw_Z below #[Value.ref b] s, s.heap, dC, dI, (fun k => if k = 0 then y0 else if k = 1 then y1 else if k = 2 then y2 else y3), (fun _ => 0), (fun q : Nat => s.heap.size ≤ q), 8) := ⟨_, rfl⟩
  have hkk : ∀ k n, k ≤ 600000 → n ≤ 7000000 → kX Γ k n := by rw [hΓ]; exact fun k n h1 h2 => ⟨Nat.le_trans h1 (Nat.le_of_ble_eq_true rfl), Nat.le_trans h2 (Nat.le_of_ble_eq_true rfl)⟩
  have hal : alOK Γ := by rw [hΓ]; exact fun q h => h
  have hnwΓ : nwOK (Γ.2.2.2.2.1) := by rw [hΓ]; exact hnw
  have hlΓ : gln Γ = l := by rw [hΓ]
  have hC : CX Γ cL_law RL LK0 200 8 := by
    rw [hΓ]; exact ⟨hx, hb, hml, hown, fun w hw => hts w (TT_tbl hw), hK, ⟨fun i j h => absurd h (Nat.not_lt_zero _), fun i h => absurd h (Nat.not_lt_zero _)⟩, Nat.le_of_ble_eq_true rfl, Nat.le_of_ble_eq_true rfl, rfl⟩
  have hSX : ∀ ad, SX (nG Γ ad) b L xs := by rw [hΓ]; intro ad; rw [nG_mk]; exact ⟨hX, hbl, Nat.not_le.mpr hbl, by omega⟩
  have hzG : ∀ ad, xzG (nG Γ ad) := by rw [hΓ]; intro ad; rw [nG_mk]; exact ⟨hxz, rfl⟩
  have hend : ∀ ad k n i μ, k ≤ 600000 → n ≤ 7000000 → GX (nG Γ ad) LAY k n [some (.ref b), some (.ref (ad 0)), some (.ref (ad 62)), some (.ref (ad 92)), some (.int (nI i)), none, none, none] [] μ 1253 := by
    intro ad k n i μ h1 h2
    rw [hΓ, nG_mk]
    intro H locs ls hP hS hl
    refine lv_iconst (v := 1) hx hb dL_law_1253 (by decide) ?_
    refine va_forget (fun q hq => hS.2.2 q hq) ?_
    refine W.widen (k := 600128) (n := 7301098) (by omega) (by omega) ?_
    exact lw_ret hx hb hr hlocks dL_law_1254
  have hl := lv_entry ([.ref b]) (n := 8) (Nat.le_of_ble_eq_true rfl)
  rw [lg_entry_eq]
  have hl : lvh (lg_sl [.ref b] ++ List.replicate (8 - (lg_sl [.ref b]).length) Slot.unset).toArray 8 [some (.ref b), none, none, none, none, none, none, none] := hl
  have key : GX Γ LK0 0 0 [some (.ref b), none, none, none, none, none, none, none] [] μZ 0 := by
    refine GX_newO (ci := 9) hC [some none, some none, some none, none, some none, some none, some none, some none, some none, some none, some none] hal clXL_8 inX9 iiX9 uwX9 tyX9_ok rfl ⟨rfl, by decide +kernel⟩ (by decide +kernel) (hkk _ _ (Nat.le_of_ble_eq_true rfl) (Nat.le_of_ble_eq_true rfl)) dL_law_0 (fun ad => [some (.ref b), none, none, none, none, none, none, none]) (fun ad => []) rfl rfl (fun _ _ _ => ⟨rfl, rfl⟩) (fun ad1 e1 hC => ?_)
    replace hC : CX (nG Γ ad1) cL_law RL LK1 200 8 := hC
    show GX (nG Γ ad1) LK1 _ _ [some (.ref b), none, none, none, none, none, none, none] [.ref (ad1 0)] μZ _
    refine GX_dup hC dL_law_3 rfl ?_
    refine GX_callI (t := 0) hC (K_NoTwoTouch_0 (l := gln (nG Γ ad1))) okiX9 ckXL_17 (alOK_nG hal) hnwΓ (Nat.le_of_ble_eq_true rfl) (by decide) (kX_nG (hkk _ _ (Nat.le_of_ble_eq_true rfl) (Nat.le_of_ble_eq_true rfl))) (Nat.le_of_ble_eq_true rfl) dL_law_4 (fun ad => [some (.ref b), none, none, none, none, none, none, none]) (fun ad => [.ref (ad 0)]) rfl rfl (fun a b h => ⟨rfl, by simp only [h 0 (by decide +kernel)]⟩) (fun ad2 e2 hC => ?_)
    rw [nG_nG] at hC ⊢
    show GX (nG Γ ad2) LK123 _ _ [some (.ref b), none, none, none, none, none, none, none] [.ref (ad2 0)] μZ _
    refine GX_astore_n hC [some (.ref b), some (.ref (ad2 0)), none, none, none, none, none, none] dL_law_7 (by decide) rfl rfl ?_
    refine GX_newO (ci := 10) hC [none, some none, some none, none, none, none, some none, some none, some none, some none, none, some none, none, none, none, none, none, some none, some none, some none, some none, some none, none, none, none, none, none, some none, some none, none, none, some none, some none, some none, some none, some none, some none, none, some none, some none, none, none, some none, some none, some none, some none, some none, some none, some none] (alOK_nG hal) clXL_18 inX10 iiX10 uwX10 tyX10_ok rfl ⟨rfl, by decide +kernel⟩ (by decide +kernel) (kX_nG (hkk _ _ (Nat.le_of_ble_eq_true rfl) (Nat.le_of_ble_eq_true rfl))) dL_law_8 (fun ad => [some (.ref b), some (.ref (ad 0)), none, none, none, none, none, none]) (fun ad => []) rfl rfl (fun a b h => ⟨by simp only [h 0 (by decide +kernel)], rfl⟩) (fun ad3 e3 hC => ?_)
    rw [nG_nG] at hC ⊢
    replace hC : CX (nG Γ ad3) cL_law RL LK124 200 8 := hC
    show GX (nG Γ ad3) LK124 _ _ [some (.ref b), some (.ref (ad3 0)), none, none, none, none, none, none] [.ref (ad3 62)] μZ _
    refine GX_dup hC dL_law_11 rfl ?_
    refine GX_callI (t := 62) hC (K_NoTwoTouchModel_62 (l := gln (nG Γ ad3))) okiX10 ckXL_20 (alOK_nG hal) hnwΓ (Nat.le_of_ble_eq_true rfl) (by decide) (kX_nG (hkk _ _ (Nat.le_of_ble_eq_true rfl) (Nat.le_of_ble_eq_true rfl))) (Nat.le_of_ble_eq_true rfl) dL_law_12 (fun ad => [some (.ref b), some (.ref (ad 0)), none, none, none, none, none, none]) (fun ad => [.ref (ad 62)]) rfl rfl (fun a b h => ⟨by simp only [h 0 (by decide +kernel)], by simp only [h 62 (by decide +kernel)]⟩) (fun ad4 e4 hC => ?_)
    rw [nG_nG] at hC ⊢
    show GX (nG Γ ad4) LK182 _ _ [some (.ref b), some (.ref (ad4 0)), none, none, none, none, none, none] [.ref (ad4 62)] μZ _
    refine GX_astore_n hC [some (.ref b), some (.ref (ad4 0)), some (.ref (ad4 62)), none, none, none, none, none] dL_law_15 (by decide) rfl rfl ?_
    refine GX_iconst hC 1 dL_law_16 rfl ?_
    refine GX_newL hC 1 (alOK_nG hal) ac_long (by decide) rfl (by decide) (by decide +kernel) (kX_nG (hkk _ _ (Nat.le_of_ble_eq_true rfl) (Nat.le_of_ble_eq_true rfl))) dL_law_17 (fun ad => [some (.ref b), some (.ref (ad 0)), some (.ref (ad 62)), none, none, none, none, none]) (fun ad => []) rfl rfl (fun a b h => ⟨by simp only [h 0 (by decide +kernel), h 62 (by decide +kernel)], rfl⟩) (fun ad5 e5 hC => ?_)
    rw [nG_nG] at hC ⊢
    replace hC : CX (nG Γ ad5) cL_law RL LK183 200 8 := hC
    show GX (nG Γ ad5) LK183 _ _ [some (.ref b), some (.ref (ad5 0)), some (.ref (ad5 62)), none, none, none, none, none] [.ref (ad5 92)] μZ _
    rw [LK_LAY] at hC ⊢
    refine GX_astore_n hC [some (.ref b), some (.ref (ad5 0)), some (.ref (ad5 62)), some (.ref (ad5 92)), none, none, none, none] dL_law_19 (by decide) rfl rfl ?_
    refine GX_iconst hC 0 dL_law_20 rfl ?_
    refine GX_istore hC [some (.ref b), some (.ref (ad5 0)), some (.ref (ad5 62)), some (.ref (ad5 92)), some (.int (nI 0)), none, none, none] dL_law_21 (by decide) rfl rfl ?_
    exact law_loop hC (hSX ad5) hL (hzG ad5) (by show (gln Γ).stackTraces = false; rw [hlΓ]; exact hst) INV hstep (fun k n h1 h2 => kX_nG (hkk k n h1 h2)) (fun k n i μ h1 h2 => hend ad5 k n i μ h1 h2) 65 0 _ _ μZ h0 (by decide) (by omega) (Nat.le_of_ble_eq_true rfl) (Nat.le_of_ble_eq_true rfl)
  rw [hΓ] at key
  exact key s.heap [] _ (fun k q h => by simp [wsOf, LK0] at h) va_S.rf hl
