/-! THE LAW'S START: what the abstract machine stands on, out of what the Statement gives -/
theorem zarr_of {s : State} {cA : ClassId} {ty : FieldType} {k : Class} {comp : ClassId} (hk : s.vm.classes[cA]? = some k) (hkind : k.kind = .array comp ty) : ArrOfT s cA ty := by
  intro n z
  exact ⟨(fun k h => by cases h), k, hk, comp, hkind⟩
theorem zarr_prim {args : Array Value} {s : State} {ty : FieldType} (h : (Cond.arrayClass ty).before args s = true) (hp : ∀ cA, s.vm.findClass ("[" ++ ty.toString) = some cA → va_RA s cA ty) : ∃ cA, ArrOfT s cA ty ∧ va_RA s cA ty := by
  obtain ⟨c, k, comp, h1, h2, h3⟩ := Cond.arrayClass_spec h
  exact ⟨c, zarr_of h2 h3, hp c h1⟩
theorem zarr_obj {args : Array Value} {s : State} {C : String} (h : (Cond.arrayOver (.object C)).before args s = true) : ∃ cA, ArrOfT s cA (.object C) ∧ va_RA s cA (.object C) := by
  obtain ⟨comp, c, k, h1, h2, h3, h4, h5⟩ := Cond.arrayOver_spec h
  exact ⟨c, zarr_of h3 h4, k, comp, h3, h4, h1, h5⟩
theorem zarr_arr {args : Array Value} {s : State} {ty : FieldType} (h : (Cond.arrayOver (.array ty)).before args s = true) : ∃ cA, ArrOfT s cA (.array ty) ∧ va_RA s cA (.array ty) := by
  obtain ⟨comp, c, k, h1, h3, h4, h5⟩ := Cond.arrayOver_specA h
  exact ⟨c, zarr_of h3 h4, h5⟩
theorem zstr_ref {args : Array Value} {s : State} {t : Term} {C : String} (h : (Cond.exactly t C).before args s = true) : ∃ a, t.eval args s none [] s = some (.ref a) := by
  cases hv : t.eval args s none [] s with
  | none => simp [Cond.before, Cond.holds, Cond.value, hv] at h
  | some w =>
    cases w with
    | ref a => exact ⟨a, rfl⟩
    | null => cases hc : s.vm.findClass C <;> simp [Cond.before, Cond.holds, Cond.value, hv, hc] at h
    | _ => simp [Cond.before, Cond.holds, Cond.value, hv] at h
/-- a table -/
theorem ztab_of {b : Nat} {s : State} {n : String} {N : Nat} {f : List Int} {A : Nat → Prop} (hA : ∀ a : Nat, a < s.heap.size → ¬ A a) (hts : ∀ w ∈ lw_tbl, w.before #[Value.ref b] s = true) (hq : ∀ w ∈ flatC (Cond.and given_1 narrow_1), w.before #[Value.ref b] s = true) (hN : N < 2 ^ 31)
    (h1 : Cond.laysStatic "CordCart" n "[I" ∈ lw_tbl) (h2 : Cond.initialized "CordCart" ∈ lw_tbl) (h3 : Cond.arrayOf (.static "CordCart" n "[I") .int ∈ flatC (Cond.and given_1 narrow_1)) (h4 : Cond.eq (.length (.static "CordCart" n "[I")) (.int (Int32.ofNat N)) ∈ flatC (Cond.and given_1 narrow_1))
    (h5 : ∀ j, j < N → Cond.eq (.elem (.static "CordCart" n "[I") (.int (Int32.ofNat j))) (.int (Int32.ofInt (f.getD j 0))) ∈ flatC (Cond.and given_1 narrow_1)) : ∃ t, zTab n t N f A s s.heap := by
  obtain ⟨t, ht, hT⟩ := va_Tof (tm := .static "CordCart" n "[I") (ty := .int) (N := N) (f := fun j => .int (Int32.ofInt (f.getD j 0))) hN (hq _ h3) (va_eqt (hq _ h4)) (fun j hj => va_eqt (hq _ (h5 j hj))) hA
  exact ⟨t, va_Zof (hts _ h1) (hts _ h2) ht hA, hT⟩
theorem zstr_q : ∀ q ∈ zStr, Cond.stringRef q.1 q.2.1 q.2.2 ∈ lw_tbl ∧ Cond.exactly (.string q.1 q.2.1) "java/lang/String" ∈ flatC (Cond.and given_1 narrow_1) := by decide +kernel
theorem zNw_tbl : ∀ w ∈ zNw, w ∈ lw_tbl := by decide +kernel
theorem zst_a1 : Cond.arrayOf (.static "CordCart" "HALF_X" "[I") .int ∈ flatC (Cond.and given_1 narrow_1) ∧ Cond.eq (.length (.static "CordCart" "HALF_X" "[I")) (.int (Int32.ofNat 16)) ∈ flatC (Cond.and given_1 narrow_1) ∧ ∀ j, j < 16 → Cond.eq (.elem (.static "CordCart" "HALF_X" "[I") (.int (Int32.ofNat j))) (.int (Int32.ofInt (zHX.getD j 0))) ∈ flatC (Cond.and given_1 narrow_1) := by decide +kernel
theorem zst_a2 : Cond.arrayOf (.static "CordCart" "HALF_Y" "[I") .int ∈ flatC (Cond.and given_1 narrow_1) ∧ Cond.eq (.length (.static "CordCart" "HALF_Y" "[I")) (.int (Int32.ofNat 16)) ∈ flatC (Cond.and given_1 narrow_1) ∧ ∀ j, j < 16 → Cond.eq (.elem (.static "CordCart" "HALF_Y" "[I") (.int (Int32.ofNat j))) (.int (Int32.ofInt (zHY.getD j 0))) ∈ flatC (Cond.and given_1 narrow_1) := by decide +kernel
theorem zst_a3 : Cond.arrayOf (.static "CordCart" "AHEAD_X" "[I") .int ∈ flatC (Cond.and given_1 narrow_1) ∧ Cond.eq (.length (.static "CordCart" "AHEAD_X" "[I")) (.int (Int32.ofNat 4)) ∈ flatC (Cond.and given_1 narrow_1) ∧ ∀ j, j < 4 → Cond.eq (.elem (.static "CordCart" "AHEAD_X" "[I") (.int (Int32.ofNat j))) (.int (Int32.ofInt (zAX.getD j 0))) ∈ flatC (Cond.and given_1 narrow_1) := by decide +kernel
theorem zst_a4 : Cond.arrayOf (.static "CordCart" "AHEAD_Y" "[I") .int ∈ flatC (Cond.and given_1 narrow_1) ∧ Cond.eq (.length (.static "CordCart" "AHEAD_Y" "[I")) (.int (Int32.ofNat 4)) ∈ flatC (Cond.and given_1 narrow_1) ∧ ∀ j, j < 4 → Cond.eq (.elem (.static "CordCart" "AHEAD_Y" "[I") (.int (Int32.ofNat j))) (.int (Int32.ofInt (zAY.getD j 0))) ∈ flatC (Cond.and given_1 narrow_1) := by decide +kernel
theorem zst_l : (∀ n ∈ ["HALF_X", "HALF_Y", "AHEAD_X", "AHEAD_Y"], Cond.laysStatic "CordCart" n "[I" ∈ lw_tbl) ∧ Cond.initialized "CordCart" ∈ lw_tbl ∧ Cond.arrayClass .int ∈ lw_tbl ∧ Cond.arrayClass .long ∈ lw_tbl ∧ Cond.arrayClass .boolean ∈ lw_tbl ∧ Cond.arrayOver (.object "CordCart$Cord") ∈ lw_tbl ∧ Cond.arrayOver (.object "CordCart$Tape") ∈ lw_tbl ∧ Cond.arrayOver (.array .int) ∈ lw_tbl := by decide +kernel
theorem zst_t : Cond.laysStatic Bundle.tN "UNASSIGNED_STACK" Bundle.steD ∈ lw_tbl ∧ Cond.laysStatic Bundle.tN "SUPPRESSED_SENTINEL" Bundle.listD ∈ lw_tbl ∧ Cond.initialized Bundle.tN ∈ lw_tbl ∧ Cond.isRef (.static Bundle.tN "UNASSIGNED_STACK" Bundle.steD) ∈ flatC (Cond.and given_1 narrow_1) ∧ Cond.isRef (.static Bundle.tN "SUPPRESSED_SENTINEL" Bundle.listD) ∈ flatC (Cond.and given_1 narrow_1) ∧ Cond.not (.castable zISE zIAE) ∈ flatC (Cond.and given_1 narrow_1) := by decide +kernel
theorem zst_i : ∀ q ∈ vwCl, Cond.instantiable q.1 q.2.2 ∈ lw_tbl := by decide +kernel
theorem zst_u (k : Nat) (q : vw_C) (h : vwCl[k]? = some q) : ∀ w ∈ u_ws q.1 q.2.1 q.2.2, w ∈ zT := by
  have hk : k < 13 := (List.getElem?_eq_some_iff.mp h).1
  rcases (by omega : k = 0 ∨ k = 1 ∨ k = 2 ∨ k = 3 ∨ k = 4 ∨ k = 5 ∨ k = 6 ∨ k = 7 ∨ k = 8 ∨ k = 9 ∨ k = 10 ∨ k = 11 ∨ k = 12) with rfl | rfl | rfl | rfl | rfl | rfl | rfl | rfl | rfl | rfl | rfl | rfl | rfl <;> cases h
  · exact zcl_0.2.1
  · exact zcl_1.2.1
  · exact zcl_2.2.1
  · exact zcl_3.2.1
  · exact zcl_4.2.1
  · exact zcl_5.2.1
  · exact zcl_6.2.1
  · exact zcl_7.2.1
  · exact zcl_8.2.1
  · exact zcl_9.2.1
  · exact zcl_10.2.1
  · exact zcl_11.2.1
  · exact zcl_12.2.1
def zM0 (L : Nat) (xs : Nat → Int32) : zM := fun a y => if a = -5 then (if y = -1 then (L : Int) else (xs y.toNat).toInt) else 0
set_option maxHeartbeats 4000000 in
theorem zper_start {p : Program} {s : State} {m : MethodId} {meth : Method} {c : Code} {b L : Nat} {xs : Nat → Int32} (hL : L ≤ 3072) (C0 : lw_At p s m meth c b L xs) : ∃ (D : va_G) (γ : Nat → ClassId) (τ : Nat → Nat), τ 4 = b ∧ zPer D γ τ L xs (fun q : Nat => s.heap.size ≤ q) s s.heap := by
  obtain ⟨hx, hb, hr, hml, hown, hts, hX, hbl, hlocks, hgv⟩ := C0
  have hq := flat_of_before _ hgv
  have hA : ∀ a : Nat, a < s.heap.size → ¬ s.heap.size ≤ a := fun a h => Nat.not_le.mpr h
  have htsT : ∀ w ∈ zT, w.before #[Value.ref b] s = true := fun w hw => hts w (List.mem_filter.mp hw).1
  obtain ⟨l1, l2, l3, l4, l5, l6, l7, l8⟩ := zst_l
  obtain ⟨e1, e2, e3, e4, e5, e6⟩ := zst_t
  have hcls : ∀ k : Nat, ∃ q2 : ClassId × (Nat → Nat), ∀ q : vw_C, vwCl[k]? = some q → u_Kn s q.1 q.2.1 q.2.2 q2.1 q2.2 := by
    intro k
    cases hk : vwCl[k]? with
    | none => exact ⟨(0, fun _ => 0), fun q h => by cases h⟩
    | some q =>
      obtain ⟨cC, iS, h⟩ := u_known htsT (zst_u k q hk) (hts _ (zst_i q (List.mem_of_getElem? hk)))
      exact ⟨(cC, iS), fun q' h' => by cases h'; exact h⟩
  obtain ⟨fK, hfK⟩ := Classical.axiomOfChoice hcls
  obtain ⟨g0, g0a, g0b⟩ := zarr_prim (ty := .int) (hts _ l3) (fun cA h => h)
  obtain ⟨g1, g1a, g1b⟩ := zarr_prim (ty := .long) (hts _ l4) (fun cA h => h)
  obtain ⟨g2, g2a, g2b⟩ := zarr_prim (ty := .boolean) (hts _ l5) (fun cA h => h)
  obtain ⟨g3, g3a, g3b⟩ := zarr_obj (hts _ l6)
  obtain ⟨g4, g4a, g4b⟩ := zarr_obj (hts _ l7)
  obtain ⟨g5, g5a, g5b⟩ := zarr_arr (hts _ l8)
  obtain ⟨t0, ht0⟩ := ztab_of (n := "HALF_X") (N := 16) (f := zHX) hA hts hq (by decide) (l1 _ (by decide)) l2 zst_a1.1 zst_a1.2.1 zst_a1.2.2
  obtain ⟨t1, ht1⟩ := ztab_of (n := "HALF_Y") (N := 16) (f := zHY) hA hts hq (by decide) (l1 _ (by decide)) l2 zst_a2.1 zst_a2.2.1 zst_a2.2.2
  obtain ⟨t2, ht2⟩ := ztab_of (n := "AHEAD_X") (N := 4) (f := zAX) hA hts hq (by decide) (l1 _ (by decide)) l2 zst_a3.1 zst_a3.2.1 zst_a3.2.2
  obtain ⟨t3, ht3⟩ := ztab_of (n := "AHEAD_Y") (N := 4) (f := zAY) hA hts hq (by decide) (l1 _ (by decide)) l2 zst_a4.1 zst_a4.2.1 zst_a4.2.2
  refine ⟨(fun k => (fK k).1, fun k => (fK k).2), fun t => match t with | 0 => g0 | 1 => g1 | 2 => g2 | 3 => g3 | 4 => g4 | _ => g5, fun t => match t with | 0 => t0 | 1 => t1 | 2 => t2 | 3 => t3 | _ => b, rfl, ⟨fun c q h => hfK c q h, ?_⟩, ⟨ht0, ht1, ht2, ht3⟩, ⟨?_, hL⟩, fun w hw => va_Nw.of (zNw_tab w hw) (hts w (zNw_tbl w hw)), ⟨va_AO.of (hts _ l6), va_AO.of (hts _ l7), ?_⟩, vx_Zqof (hts _ e1) (hts _ e3) (hq _ e4) hA, vx_Zqof (hts _ e2) (hts _ e3) (hq _ e5) hA, fun q hq2 => ?_, va_Nc.of (hq _ e6)⟩
  · intro k q h
    have hk : k < 6 := (List.getElem?_eq_some_iff.mp h).1
    rcases (by omega : k = 0 ∨ k = 1 ∨ k = 2 ∨ k = 3 ∨ k = 4 ∨ k = 5) with rfl | rfl | rfl | rfl | rfl | rfl <;> cases h
    · exact ⟨g0a, g0b⟩
    · exact ⟨g1a, g1b⟩
    · exact ⟨g2a, g2b⟩
    · exact ⟨g3a, g3b⟩
    · exact ⟨g4a, g4b⟩
    · exact ⟨g5a, g5b⟩
  · obtain ⟨scr, h1, h2, h3, h4, h5⟩ := hX
    exact ⟨scr, h1, h2, h3, by omega, by rw [h4], h5, hA b hbl⟩
  · exact hts _ l8
  · obtain ⟨h1, h2⟩ := zstr_q q hq2
    obtain ⟨a, ha⟩ := zstr_ref (hq _ h2)
    exact ⟨a, vk_R.of (hts _ h1) ha⟩
set_option maxHeartbeats 4000000 in
set_option maxRecDepth 100000 in
/-- the law's walk out of its abstract run -/
theorem zwhole {p : Program} {e : Env} {s : State} {m : MethodId} {below : List Frame} {meth : Method} {c : Code} (l : Launch) (hflags : l.flags = flags0) {b L : Nat} {xs : Nat → Int32} (hL : L ≤ 3072) (C0 : lw_At p s m meth c b L xs)
    (hrun : ∃ (M' : zM) (X' : zX), zex 228 0 [] (zloc 8 [(3, 4)]) (zM0 L xs) ([], 601024, 7293034) = some ((0, 1), M', X')) : W p l e room_1 s m #[Value.ref b] below meth c s.heap [] 0 0 (lw_Z below #[Value.ref b] s) (entryFrame m ([Value.ref b] : List Value).toArray 8) := by
  have hst : l.stackTraces = false := by
    unfold Launch.stackTraces
    rw [hflags]
    decide +kernel
  obtain ⟨M', X', hex⟩ := hrun
  obtain ⟨f, hf⟩ := zex_iff.mp hex
  obtain ⟨D, γ, τ, hτ, hPer⟩ := zper_start hL C0
  obtain ⟨hx, hb, hr, hml, hown, hts, hX, hbl, hlocks, hgv⟩ := C0
  obtain ⟨-, -, -, g4⟩ := zsound (l := l) (D := D) (γ := γ) (τ := τ) (L := L) (xs := xs) hst f 228 0 [] (zloc 8 [(3, 4)]) (zM0 L xs) ([], 601024, 7293034) (0, 1) M' X' hf
  have hl := lv_entry ([.ref b]) (n := 8) (Nat.le_of_ble_eq_true rfl)
  rw [lg_entry_eq]
  generalize (lg_sl ([.ref b]) ++ List.replicate (8 - (lg_sl ([.ref b])).length) Slot.unset).toArray = ls at hl ⊢
  have hl : lv_has ls 8 [(0, .ref b)] := hl
  have hLc : zLc τ (fun x => x) (zml 228) (zloc 8 [(3, 4)]) ls := by
    refine ⟨rfl, hl.1, hl.2.1, fun q hq => ?_⟩
    have hq : q ∈ [(0, Value.ref (τ 4))] := hq
    rw [hτ] at hq
    exact hl.2.2 q hq
  have key := g4 p e room_1 s m #[Value.ref b] below meth c (fun q : Nat => s.heap.size ≤ q)
    ⟨⟨hx, hb, hml, hown, fun w hw => hts w (List.mem_filter.mp hw).1, by decide +kernel, by decide +kernel, fun h => absurd h (by decide +kernel), fun h => absurd rfl h⟩, hPer, fun q h => h⟩
    (fun x => x) s.heap [] ls ⟨fun k q h => by simp [zwl] at h, ⟨fun i j p q h => by simp [zwl] at h, fun k q h => by simp [zwl] at h⟩, fun q kd h => by simp at h, ⟨rfl, fun j hj => by
      unfold zM0
      rw [if_pos rfl, if_neg (by omega)]
      rfl⟩⟩ va_S.rf hLc (fun v hv => absurd hv List.not_mem_nil) (by
      intro v hv
      have hv : v ∈ [(3, 4), (9, 0), (9, 0), (9, 0), (9, 0), (9, 0), (9, 0), ((9, 0) : zV)] := hv
      simp only [List.mem_cons, List.not_mem_nil, or_false] at hv
      rcases hv with rfl | rfl | rfl | rfl | rfl | rfl | rfl | rfl
      · exact .of3
      all_goals exact .of9) 0 0 (lw_Z below #[Value.ref b] s) (by show 0 + (601024 - X'.2.1) ≤ 601024; omega) (by show 0 + (7293034 - X'.2.2) ≤ 7293034; omega) ?_
  · exact key
  · intro i' ρ' H' locs' ls' cs ss hE hr' hW' hS' hls hcs
    rw [if_neg (by decide)] at hcs
    have hcs : cs = 0 + (601024 - X'.2.1) ∧ ss = 0 + (7293034 - X'.2.2) := hcs
    obtain ⟨h1, -, -⟩ := hE
    refine va_forget (fun q hq => hS'.2.2 q hq) (W.widen (k := 601024) (n := 7293034) (by omega) (by omega) ?_)
    exact lw_ret hx hb hr hlocks h1
