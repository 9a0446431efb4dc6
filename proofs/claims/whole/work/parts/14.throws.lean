/-! THE OPERATIONS AGAINST THE INSTRUCTIONS: throws, and calls that may throw; methods with a table -/
section SO10
variable {l : Launch} {D : va_G} {γ : Nat → ClassId} {τ : Nat → Nat} {L : Nat} {xs : Nat → Int32} {k i pc : Nat} {B : ByteArray} {P : List Nat}
theorem so_throw {x : Nat} (hx : x = 1 ∨ x = 2) (hi : i < 1000) (hthr : zThr l D γ τ L xs x k i) : zSO l D γ τ L xs k B P i (zo_throw x i) := by
  intro hB hP F hF st lo M X r M' X' h
  unfold zo_throw at h
  split at h
  · obtain ⟨⟨h1, h2⟩, h⟩ := zg_some h
    cases h
    refine ⟨⟨[], (List.append_nil _).symm⟩, Nat.sub_le _ _, Nat.sub_le _ _, ?_⟩
    intro p e R s m args below meth cd A hC ρ H locs ls hW hS hL hs hl cells slots Q hcc hss hend
    refine hend i ρ H locs ls cells slots ⟨x, hx, hi, rfl, hthr⟩ (fun _ _ => rfl) hW hS hL.2.1 ?_
    rw [if_pos rfl]
    show cells + 1 = cells + (X.2.1 - (X.2.1 - 1)) ∧ slots + 6 = slots + (X.2.2 - (X.2.2 - 6))
    omega
  · cases h
def zNames : List String := ["java/lang/RuntimeException", "java/lang/Exception"]
/-- the words of a throw -/
def zThW (own : String) (ik ic is : Nat) (x : Nat) (tx : String) : Prop := Cond.classLink own ik (zEn x) ∈ zT ∧ Cond.initialized (zEn x) ∈ zT ∧ (own, is, tx) ∈ zStr ∧ (∀ w ∈ vx_atS own ic (zEn x) zNames, w ∈ zT ∨ w ∈ zNw) ∧ (∀ w ∈ Cond.classLink own ik (zEn x) :: Cond.initialized (zEn x) :: vx_atS own ic (zEn x) zNames, vx_ot w = true) ∧ Bundle.fit (zEn x) = true ∧ ∀ n ∈ zNames, Bundle.fit n = true
theorem zNw_tab : ∀ w ∈ zNw, w.onTables = true := by decide +kernel
theorem zthr_S {x ik ic is : Nat} {own tx : String} (hB : zb k = B) (hpc : zpc k i = pc) (ho : zow k = own) (hr : 6 ≤ zlv k ∧ 82 ≤ zlc k) (hw : zThW own ik ic is x tx)
    (d0 : decode B pc = .ok (.new ik, 3)) (d3 : decode B (pc + 3) = .ok (.dup, 1)) (d4 : decode B (pc + 4) = .ok (.ldc is, 2)) (d6 : decode B (pc + 6) = .ok (.invokespecial ic, 3)) (d9 : decode B (pc + 9) = .ok (.athrow, 1)) : zThr l D γ τ L xs x k i := by
  intro p e R s m args below meth c A H locs cells slots mc ms ls Qc XC free hC hst htab hlocks hS hls hx hf hc hs hcc hss
  obtain ⟨⟨hex, hb, hml, hown, hts, hfr, hlc, hnm, hht⟩, hPer, hA⟩ := hC
  obtain ⟨w1, w2, w3, w4, w5, w6, w7⟩ := hw
  obtain ⟨-, -, -, hNw, -, e1, e2, e3, e4⟩ := hPer
  obtain ⟨sa, hsa⟩ := e3 _ w3
  rw [ho] at hown
  rw [hpc]
  exact vx_throwS (names := zNames) hex (hb.trans hB) hst hown w6 w7 (hts _ w1) (hts _ w2) hsa (fun w hw => (w4 w hw).elim (hts w) (fun q => va_Nw.use (zNw_tab w q) (hNw w q))) w5 e1 e2 hS hls d0 d3 d4 d6 d9 (fun z hz => (htab z hz).elim) (by show 2 + 3 < _; omega) (by show 0 + (13 * (2 + 1) + 43) ≤ _; omega) hcc hss hlocks hx hf hc hs
theorem zthr_SW {x ik ic is : Nat} {own tx : String} (hB : zb k = B) (hpc : zpc k i = pc) (ho : zow k = own) (hr : 6 ≤ zlv k ∧ 82 ≤ zlc k) (hw : zThW own ik ic is x tx)
    (d0 : decode B pc = .ok (.new ik, 3)) (d3 : decode B (pc + 3) = .ok (.dup, 1)) (d4 : decode B (pc + 4) = .ok (.ldc_w is, 3)) (d7 : decode B (pc + 7) = .ok (.invokespecial ic, 3)) (d10 : decode B (pc + 10) = .ok (.athrow, 1)) : zThr l D γ τ L xs x k i := by
  intro p e R s m args below meth c A H locs cells slots mc ms ls Qc XC free hC hst htab hlocks hS hls hx hf hc hs hcc hss
  obtain ⟨⟨hex, hb, hml, hown, hts, hfr, hlc, hnm, hht⟩, hPer, hA⟩ := hC
  obtain ⟨w1, w2, w3, w4, w5, w6, w7⟩ := hw
  obtain ⟨-, -, -, hNw, -, e1, e2, e3, e4⟩ := hPer
  obtain ⟨sa, hsa⟩ := e3 _ w3
  rw [ho] at hown
  rw [hpc]
  exact vx_throwSW (names := zNames) hex (hb.trans hB) hst hown w6 w7 (hts _ w1) (hts _ w2) hsa (fun w hw => (w4 w hw).elim (hts w) (fun q => va_Nw.use (zNw_tab w q) (hNw w q))) w5 e1 e2 hS hls d0 d3 d4 d7 d10 (fun z hz => (htab z hz).elim) (by show 2 + 3 < _; omega) (by show 0 + (13 * (2 + 1) + 43) ≤ _; omega) hcc hss hlocks hx hf hc hs
/-- the catch of x at pc goes to hpc -/
def zCat (l : Launch) (D : va_G) (γ : Nat → ClassId) (τ : Nat → Nat) (L : Nat) (xs : Nat → Int32) (k pc x hpc : Nat) : Prop := ∀ (p : Program) (e : Env) (R : Room) (s : State) (m : MethodId) (args : Array Value) (below : List Frame) (meth : Method) (c : Code) (A : Nat → Prop), zCtx D γ τ L xs k p R s m args meth c A →
  ∀ (H : Heap) (locs : List Loc) (cells slots : Nat) (Q : State → Prop) (ls : Array Slot) (rest : List Value) (q : Addr) (ce : Cell), H[q]? = some ce → ce.vm = .none → s.vm.findClass (zEn x) = some ce.cls → W p l e R s m args below meth c H locs cells slots Q (F0 m hpc ls [.ref q]) → vx_W p l e R s m args below meth c H locs cells slots Q (F0 m pc ls rest) q
/-- the first row catches -/
theorem zcat_0 {x a b h ct : Nat} {own : String} {suf : List (Nat × Nat × Nat × Nat)} (ho : zow k = own) (hh : zhh k = (a, b, h, ct) :: suf) (hin : covers (tableOf [(a, b, h, ct)]).head! pc = true ∧ (tableOf [(a, b, h, ct)]).head!.handlerPc = h ∧ (tableOf [(a, b, h, ct)]).head!.catchType = ct ∧ ct ≠ 0 ∧ tableOf ((a, b, h, ct) :: suf) = (tableOf [(a, b, h, ct)]).head! :: tableOf suf) (hw : Cond.classLink own ct (zEn x) ∈ zT ∧ Cond.castable (zEn x) (zEn x) ∈ zNw) : zCat l D γ τ L xs k pc x h := by
  intro p e R s m args below meth c A hC H locs cells slots Q ls rest q ce hce hv hcl kk
  obtain ⟨⟨hex, hb, hml, hown, hts, hfr, hlc, hnm, hht⟩, hPer, hA⟩ := hC
  rw [ho] at hown
  obtain ⟨h1, h2, h3, h4, h5⟩ := hin
  refine vx_catch hown [] (tableOf [(a, b, h, ct)]).head! (tableOf suf) (by rw [hht (by rw [hh]; simp), hh, h5]; rfl) (fun z hz => absurd hz List.not_mem_nil) h1 (by rw [h3]; exact h4) (by rw [h3]; exact hts _ hw.1) (va_Nw.use (zNw_tab _ hw.2) (hPer.2.2.2.1 _ hw.2)) hce hv hcl ?_
  rw [h2]
  exact kk
/-- the second row catches what the first doesn't -/
theorem zcat_1 {a b h ct a' b' h' ct' : Nat} {own : String} (ho : zow k = own) (hh : zhh k = [(a', b', h', ct'), (a, b, h, ct)]) (hin : covers (tableOf [(a, b, h, ct)]).head! pc = true ∧ (tableOf [(a, b, h, ct)]).head!.handlerPc = h ∧ (tableOf [(a, b, h, ct)]).head!.catchType = ct ∧ ct ≠ 0 ∧ tableOf [(a', b', h', ct'), (a, b, h, ct)] = [(tableOf [(a', b', h', ct')]).head!, (tableOf [(a, b, h, ct)]).head!] ∧ (tableOf [(a', b', h', ct')]).head!.catchType = ct' ∧ ct' ≠ 0)
    (hw : Cond.classLink own ct zISE ∈ zT ∧ Cond.castable zISE zISE ∈ zNw ∧ Cond.classLink own ct' zIAE ∈ zT) : zCat l D γ τ L xs k pc 2 h := by
  intro p e R s m args below meth c A hC H locs cells slots Q ls rest q ce hce hv hcl kk
  obtain ⟨⟨hex, hb, hml, hown, hts, hfr, hlc, hnm, hht⟩, hPer, hA⟩ := hC
  rw [ho] at hown
  obtain ⟨h1, h2, h3, h4, h5, h6, h7⟩ := hin
  refine vx_catch (E := zISE) hown [(tableOf [(a', b', h', ct')]).head!] (tableOf [(a, b, h, ct)]).head! [] (by rw [hht (by rw [hh]; simp), hh, h5]; rfl) (fun z hz => ?_) h1 (by rw [h3]; exact h4) (by rw [h3]; exact hts _ hw.1) (va_Nw.use (zNw_tab _ hw.2.1) (hPer.2.2.2.1 _ hw.2.1)) hce hv hcl ?_
  · rw [List.mem_singleton.mp hz]
    exact Or.inr ⟨by rw [h6]; exact h7, zIAE, by rw [h6]; exact hts _ hw.2.2, hPer.2.2.2.2.2.2.2.2⟩
  · rw [h2]
    exact kk
theorem zbT_some {o : Option zR} {g : zV → zM → zX → Option zR} {h : Int → zM → zX → Option zR} {r : zR} (hh : zbT o g h = some r) : (∃ v M X, o = some ((8, v), M, X) ∧ h v M X = some r) ∨ ∃ v M X, v.1 ≠ 8 ∧ o = some (v, M, X) ∧ g v M X = some r := by
  unfold zbT at hh
  split at hh
  · exact Or.inl ⟨_, _, _, rfl, hh⟩
  · rename_i v M X hne
    refine Or.inr ⟨v, M, X, fun z => ?_, rfl, hh⟩
    obtain ⟨t, y⟩ := v
    have z : t = 8 := z
    subst z
    exact hne y rfl
  · cases hh
theorem zset_has {τ ρ : Nat → Nat} {nL a q : Nat} {lo : List zV} {ls : Array Slot} (ha : a < lo.length) (hlen : lo.length = nL) (hno : lo.all (fun v => !Nat.beq v.1 1) = true)
    (h : lv_has ls nL ((a, .ref q) :: (zlvl τ ρ 0 lo).filter (fun q => !(q.1 == a) && !(q.1 + 1 == a && q.2.category == 2)))) : zLc τ ρ nL (lo.set a (9, 0)) ls := by
  refine ⟨by simp [hlen], h.1, h.2.1, fun z hz => h.2.2 z ?_⟩
  obtain ⟨j, w, h1, h2, rfl⟩ := zlvl_mem.mp hz
  by_cases hj : j = a
  · subst hj
    rw [List.getElem?_set_self ha] at h1
    cases h1
    exact absurd rfl h2
  · rw [List.getElem?_set_ne (Ne.symm hj)] at h1
    refine List.mem_cons_of_mem _ (List.mem_filter.mpr ⟨zlvl_mem.mpr ⟨j, w, h1, h2, rfl⟩, ?_⟩)
    have hw := List.all_eq_true.mp hno w (List.mem_of_getElem? h1)
    have hw1 : w.1 ≠ 1 := by
      intro z
      rw [z] at hw
      simp at hw
    simp only [Nat.zero_add, Bool.and_eq_true, Bool.not_eq_true', beq_eq_false_iff_ne, ne_eq, Bool.and_eq_false_iff, zcv_cat]
    exact ⟨hj, Or.inr (by simp [hw1])⟩
/-- the store at a handler's head -/
def zHst (l : Launch) (B : ByteArray) (hpc nx a : Nat) : Prop := ∀ (p : Program) (e : Env) (R : Room) (s : State) (m : MethodId) (args : Array Value) (below : List Frame) (meth : Method) (c : Code) (H : Heap) (locs : List Loc) (cells slots : Nat) (Q : State → Prop) (ls : Array Slot) (q nL : Nat) (lv : List (Nat × Value)), p.tables.exec = Jvm.exec → c.code = B → lv_has ls nL lv → a < nL →
  (∀ ls', lv_has ls' nL ((a, .ref q) :: lv.filter (fun q => !(q.1 == a) && !(q.1 + 1 == a && q.2.category == 2))) → W p l e R s m args below meth c H locs cells slots Q (F0 m nx ls' [])) → W p l e R s m args below meth c H locs cells slots Q (F0 m hpc ls [.ref q])
theorem zhst_n {n : Fin 4} {a hpc : Nat} (hd : decode B hpc = .ok (.astore_n n, 1)) (ha : (n : Nat) = a) : zHst l B hpc (hpc + 1) a :=
  fun p e R s m args below meth c H locs cells slots Q ls q nL lv hx hb hl hn kk => lv_astore_n hx hb hd ha hl hn rfl kk
theorem zhst {a hpc : Nat} (hd : decode B hpc = .ok (.astore a, 2)) : zHst l B hpc (hpc + 2) a :=
  fun p e R s m args below meth c H locs cells slots Q ls q nL lv hx hb hl hn kk => lv_astore hx hb hd hl hn rfl kk
set_option maxHeartbeats 4000000 in
theorem so_tcall {c n nl rt h1 h2 ea hp1 hp2 hb1 hb2 ci N idx : Nat} {own C : String} {T : u_T} (hst : l.stackTraces = false) (hpl : plainName (zy c).cls = true) (hp : P[i]? = some pc) (hq : P[i + 1]? = some (pc + 3)) (hd : decode B pc = .ok (.invokevirtual idx, 3)) (ho : zow k = own) (hc : zCal k c n) (hnl : nl = zml c) (hC : vwCl[ci]? = some (C, T, N) ∧ ci < 13) (hw : Cond.methodLink own idx (zy c) ∈ zT ∧ Cond.instanceMethod (zy c) ∈ zT ∧ Cond.selects C (zy c) (zy c) ∈ zT)
    (hrt : rt = 0 ∨ rt = 1 ∨ rt = 9) (hP1 : P[h1]? = some hb1) (hP2 : P[h2]? = some hb2) (hk1 : zCat l D γ τ L xs k pc 1 hp1 ∧ zHst l B hp1 hb1 ea ∨ h1 = 0) (hk2 : zCat l D γ τ L xs k pc 2 hp2 ∧ zHst l B hp2 hb2 ea) : zSO l D γ τ L xs k B P i (zo_tcall c (n + 1) nl (6 + ci) rt h1 h2 ea) := by
  intro hB hP F hF st lo M X r M' X' h
  unfold zo_tcall at h
  split at h
  · rename_i hall
    rw [Bool.and_eq_true, Bool.and_eq_true, Bool.and_eq_true] at hall
    obtain ⟨⟨harg, hrtg⟩, hea, hno⟩ := hall
    obtain ⟨hz, h⟩ := zg_some h
    have hlen : (st.take (n + 1)).reverse.length = n + 1 := by
      have harg := harg
      unfold zarg at harg
      rw [Bool.and_eq_true, Bool.and_eq_true] at harg
      have := Nat.le_of_ble_eq_true harg.1.2
      rw [List.length_reverse, List.length_take]; omega
    have hk2' := Nat.eq_of_beq_eq_true hrtg
    rcases zbT_some h with ⟨v, M1, X1, e1, e2⟩ | ⟨v, M1, X1, h8, e1, e2⟩
    · -- thrown
      subst hnl
      have g1 := hF _ _ _ _ _ _ _ _ _ e1
      have hx : ∃ x : Nat, (x = 1 ∨ x = 2) ∧ (v < 2000 ↔ x = 1) := by
        by_cases hv : v < 2000
        · exact ⟨1, Or.inl rfl, by simp [hv]⟩
        · exact ⟨2, Or.inr rfl, by simp [hv]⟩
      obtain ⟨x, hx12, hvx⟩ := hx
      obtain ⟨hh, hb, hpcx, hF2, hPh, hcat, hhst⟩ : ∃ hh hb hpcx : Nat, F k hh [] (lo.set ea (9, 0)) M1 X1 = some (r, M', X') ∧ P[hh]? = some hb ∧ zCat l D γ τ L xs k pc x hpcx ∧ zHst l B hpcx hb ea := by
        by_cases hv : v < 2000
        · rw [if_pos hv] at e2
          have hx1 := hvx.mp hv
          subst hx1
          cases h1 with
          | zero => cases e2
          | succ h1 =>
            rcases hk1 with hk1 | hk1
            · exact ⟨h1 + 1, hb1, hp1, e2, hP1, hk1.1, hk1.2⟩
            · cases hk1
        · rw [if_neg hv] at e2
          have hx2 : x = 2 := by
            rcases hx12 with q | q
            · exact absurd (hvx.mpr q) hv
            · exact q
          subst hx2
          exact ⟨h2, hb2, hp2, e2, hP2, hk2.1, hk2.2⟩
      have g2 := hF _ _ _ _ _ _ _ _ _ hF2
      obtain ⟨⟨t1, a1⟩, a2, a3, -⟩ := id g1
      obtain ⟨⟨t2, b1⟩, b2, b3, b4⟩ := g2
      have hlenX : X.1.length ≤ X1.1.length := by rw [a1, List.length_append]; omega
      refine ⟨⟨t1 ++ t2, by rw [b1, a1, List.append_assoc]⟩, by omega, by omega, ?_⟩
      intro p e R s m args below meth cd A hCx ρ H locs ls hW hS hL hs hl cells slots Q hcc hss hend
      have hsc : zcat (st.drop (n + 1)) ≤ 8 := by
        unfold zarg at harg
        rw [Bool.and_eq_true, Bool.and_eq_true] at harg
        exact Nat.le_of_ble_eq_true harg.1.1
      have hnp : (zpad (st.take (n + 1)).reverse).length ≤ zml c := by
        unfold zarg at harg
        rw [Bool.and_eq_true] at harg
        exact Nat.le_of_ble_eq_true harg.2
      have hok : zsOK X.1.length (st.take (n + 1)).reverse := fun w hw => hs w (List.mem_of_mem_take (List.mem_reverse.mp hw))
      have hmap : st.map (zcv τ ρ) = ((st.take (n + 1)).reverse.map (zcv τ ρ)).reverse ++ (st.drop (n + 1)).map (zcv τ ρ) := by
        rw [← List.map_reverse, List.reverse_reverse, ← List.map_append, List.take_append_drop]
      have hMX := zMetX (sz := H.size) (ρ := ρ) hst hpl hc.1 hc.2.2.1 hnp g1 hok hx12 hvx
      generalize (st.take (n + 1)).reverse = as at hlen hk2' hz hmap hok hMX
      obtain ⟨y, as, rfl, hn5⟩ := zhead hlen hk2'
      have hfr := zPc_at (as := (2, y) :: as) hCx hW hS
      obtain ⟨⟨hex, hb9, hml, hown, hts, hfr9, hlc, hnm, hht⟩, hPer, hA⟩ := id hCx
      obtain ⟨c1, c2, c3, c4, c5, c6, c7, c8, c9⟩ := hc
      rw [ho] at hown
      have cb := callB_of (R := R) (Ts := zT) (s := s) (args := args) (own := own) (index := idx) (y := zy c) (bytes := zb c) (maxL := zml c) (ret := zrt c) (ws := zws c) (ws' := zT) (rm := zrm c X X1) (mc := X.2.1 - X1.2.1) (ms := X.2.2 - X1.2.2) n hts (zws_good c2) (by unfold zws; rw [zcw_nil c3]) rfl rfl (hts _ c4) (hts _ hw.1) ⟨c5, c6, c7⟩ ⟨by show zlv c + 1 ≤ _; omega, by show _ + zlc c ≤ _; omega⟩
      have hrun := vx_runV (H := H) (below := below) (meth := meth) (p := p) (e := e) (c := cd) (m := m) (locs := locs) (cells := cells) (slots := slots) (C := C) (b := ρ (y - 1).toNat) (As := as.map (zcv τ ρ)) (rest := (st.drop (n + 1)).map (zcv τ ρ)) (g := F0 m pc ls ((((2, y) :: as).map (zcv τ ρ)).reverse ++ (st.drop (n + 1)).map (zcv τ ρ))) ⟨hex, hb9.trans hB, hml, hown, hts⟩ hMX ⟨cb, hts _ hw.2.1, hts _ hw.2.2⟩ ⟨zPc_blind, zrecv hPer.1 hW hC hz, hfr.2⟩ rfl (by rw [List.length_map]; exact hn5) hL.2.1 (by rw [List.map_cons, List.reverse_cons, List.append_assoc]; rfl) (lv_room (by rw [zcat_eq]; exact hsc)) hd ⟨by omega, by omega⟩
      rw [zpc_of hP hp, hmap]
      intro T hT X9
      rcases hrun T hT X9 with ⟨_, _, _, _, _, _, _, _, _, _, hfalse, _⟩ | ⟨q, st₀, t, T', Ls, E, ce, h0, X', hLs, q1, q2, ⟨hE, ⟨ρ1, hr1, hw1⟩, hF9⟩, hce, hcv, hcl, stp⟩
      · exact hfalse.elim
      · subst hE
        obtain ⟨k1, k2, k3⟩ := vx_keep (A1 := va_A (zwl γ ρ X.1 M) H.size) h0 q1 hS (fun q _ => hfr.1 q) hfr.1 hLs hF9
        have hW1 : zWd D γ L xs A ρ1 X1.1 M1 T'.heap := by
          rw [q1]
          exact ⟨hw1.1, hw1.2.1.weaken (fun k q _ h => hfr.1 q.1 h), hw1.2.2⟩
        have hLn : ea < lo.length := by simpa [Nat.blt_eq] using hea
        have kk : vx_W p l e R s m args below meth cd T'.heap (locs ++ Ls) (cells + (X.2.1 - X1.2.1)) (slots + (X.2.2 - X1.2.2)) Q (F0 m pc ls ((st.drop (n + 1)).map (zcv τ ρ))) q := by
          refine hcat p e R s m args below meth cd A hCx T'.heap _ _ _ Q ls _ q ce (by rw [q1]; exact hce) hcv hcl ?_
          refine hhst p e R s m args below meth cd T'.heap _ _ _ Q ls q _ _ hex (hb9.trans hB) hL.2 (by rw [← hL.1]; exact hLn) fun ls' hl' => ?_
          have hls' := zset_has hLn hL.1 hno hl'
          have hokl : zsOK X.1.length (lo.set ea (9, 0)) := by
            intro w hw
            rcases List.mem_or_eq_of_mem_set hw with q | rfl
            · exact hl w q
            · exact .of9
          have hk := b4 p e R s m args below meth cd A hCx ρ1 T'.heap (locs ++ Ls) ls' hW1 k3 ⟨hls'.1, by rw [zlvl_ext hr1 hokl]; exact hls'.2⟩ (fun v hv => absurd hv List.not_mem_nil) (hokl.mono hlenX) (cells + (X.2.1 - X1.2.1)) (slots + (X.2.2 - X1.2.2)) Q (by omega) (by omega) (fun i' ρ' H' locs' ls' cs ss he hr' hW' hS' hls hcs => hend i' ρ' H' locs' ls' cs ss he (fun q hq => (hr' q (by omega)).trans (hr1 q hq)) hW' hS' hls (by
            split at hcs
            · rename_i h8
              rw [if_pos h8]; omega
            · rename_i h8
              rw [if_neg h8]; omega))
          rw [zpc_of hP hPh] at hk
          exact hk
        obtain ⟨t2, a1, b1⟩ := kk T' rfl X'
        exact ⟨t2, stp.trans a1, b1⟩
    · -- returned
      have hv1 : v.1 = rt ∧ (v.1 = 0 ∨ v.1 = 1 ∨ v.1 = 9) ∧ F k (i + 1) ((if v.1 < 8 then [v] else []) ++ st.drop (n + 1)) lo M1 X1 = some (r, M', X') := by
        cases hbeq : Nat.beq v.1 rt with
        | false =>
          rw [hbeq] at e2
          cases e2
        | true =>
          have hv := Nat.eq_of_beq_eq_true hbeq
          rw [hbeq] at e2
          refine ⟨hv, by rw [hv]; exact hrt, ?_⟩
          rw [hv]
          rcases hrt with rfl | rfl | rfl
          · exact e2
          · exact e2
          · exact e2
      exact zcall_goal (kd := 6 + ci) hP hB hp hq (zrun_V hd ho hc hC hw) hc.1 hnl harg (fun _ => ⟨hk2', hz⟩) (hF _ _ _ _ _ _ _ _ _ e1) hv1.2.1 (hF _ _ _ _ _ _ _ _ _ hv1.2.2)
  · cases h
/-- calls of methods with a table -/
def zCalW (k c n : Nat) : Prop := zMOk c ∧ zcw c ∈ zT ∧ zhh c ≠ [] ∧ Cond.initialized (zy c).cls ∈ zT ∧ (zy c).cls ≠ "java/lang/invoke/MethodHandle" ∧ (zy c).cls ≠ "java/lang/invoke/VarHandle" ∧ (parseMethodDescriptor (zy c).desc).map (fun d => d.parameters.length) = some n ∧ zlv c + 1 ≤ zlv k ∧ 8 + (zml c + 11) + zlc c ≤ zlc k
theorem zgood_app {c : Nat} {ws : List Cond} (h1 : zcw c ∈ zT) (h2 : ∀ w ∈ ws, w ∈ zT) : GoodIn zT (ws ++ zws c) := goodIn_app (goodIn_sub h2 (List.all_eq_true.mpr fun w hw => zT_good _ (h2 w hw))) (zws_good h1)
theorem zrun_SW {c n idx : Nat} {own : String} (hd : decode B pc = .ok (.invokestatic idx, 3)) (ho : zow k = own) (hc : zCalW k c n) (hw : Cond.methodLink own idx (zy c) ∈ zT ∧ Cond.static (zy c) ∈ zT) : zRun l D γ τ L xs k c n 0 B pc := by
  intro p e R s m args below meth cd A hC hB ρ H locs ls as rest M M1 X X1 r cells slots hW hS hls hn hkd hcat hcc hss hM
  obtain ⟨⟨hx, hb, hml, hown, hts, hfr, hlc, hnm, hht⟩, hPer, hA⟩ := id hC
  obtain ⟨h1, h2, h3, h4, h5, h6, h7, h8, h9⟩ := hc
  rw [ho] at hown
  have cb := vx_cwSW (R := R) (Ts := zT) (s := s) (args := args) (own := own) (index := idx) (y := zy c) (bytes := zb c) (maxL := zml c) (ret := zrt c) (hh := zhh c) (ws := zws c) (ws' := zT) (rm := zrm c X X1) (mc := X.2.1 - X1.2.1) (ms := X.2.2 - X1.2.2) n hts (zgood_app h2 (fun w hw' => by
    rcases List.mem_cons.mp hw' with rfl | hw'
    · exact hw.1
    · rcases List.mem_cons.mp hw' with rfl | hw'
      · exact hw.2
      · rw [List.mem_singleton.mp hw']; exact h4)) (by unfold zws; rw [zcw_ne h3]) rfl rfl ⟨h5, h6, h7⟩ ⟨by show zlv c + 1 ≤ _; omega, by show _ + zlc c ≤ _; omega⟩
  exact vx_runSW (As := as.map (zcv τ ρ)) (rest := rest) ⟨hx, hB, hml, hown, hts⟩ hM cb ⟨zPc_blind, (zPc_at hC hW hS).2⟩ rfl (by rw [List.length_map]; exact hn) hls rfl (lv_room hcat) hd ⟨hcc, hss⟩
theorem zrun_VW {c n ci N idx : Nat} {own C : String} {T : u_T} (hd : decode B pc = .ok (.invokevirtual idx, 3)) (ho : zow k = own) (hc : zCalW k c n) (hC : vwCl[ci]? = some (C, T, N) ∧ ci < 13) (hCy : (zy c).cls = C) (hw : Cond.methodLink own idx (zy c) ∈ zT ∧ Cond.instanceMethod (zy c) ∈ zT ∧ Cond.selects C (zy c) (zy c) ∈ zT) : zRun l D γ τ L xs k c (n + 1) (6 + ci) B pc := by
  intro p e R s m args below meth cd A hCx hB ρ H locs ls as rest M M1 X X1 r cells slots hW hS hls hn hkd hcat hcc hss hM
  obtain ⟨hk2, hkz⟩ := hkd (by omega)
  obtain ⟨x, as, rfl, hn5⟩ := zhead hn hk2
  obtain ⟨⟨hx, hb, hml, hown, hts, hfr, hlc, hnm, hht⟩, hPer, hA⟩ := id hCx
  obtain ⟨h1, h2, h3, h4, h5, h6, h7, h8, h9⟩ := hc
  rw [ho] at hown
  have cb := vx_cwVW (C := C) (R := R) (Ts := zT) (s := s) (args := args) (own := own) (index := idx) (y := zy c) (bytes := zb c) (maxL := zml c) (ret := zrt c) (hh := zhh c) (ws := zws c) (ws' := zT) (rm := zrm c X X1) (mc := X.2.1 - X1.2.1) (ms := X.2.2 - X1.2.2) n hts (zgood_app h2 (fun w hw' => by
    rcases List.mem_cons.mp hw' with rfl | hw'
    · exact hw.1
    · rcases List.mem_cons.mp hw' with rfl | hw'
      · exact hw.2.1
      · rcases List.mem_cons.mp hw' with rfl | hw'
        · exact hw.2.2
        · rw [List.mem_singleton.mp hw', ← hCy]; exact h4)) (by unfold zws; rw [zcw_ne h3]) rfl rfl ⟨hCy, h5, h6, h7⟩ ⟨by show zlv c + 1 ≤ _; omega, by show _ + zlc c ≤ _; omega⟩
  exact vx_runVW (C := C) (b := ρ (x - 1).toNat) (As := as.map (zcv τ ρ)) (rest := rest) ⟨hx, hB, hml, hown, hts⟩ hM cb ⟨zPc_blind, zrecv hPer.1 hW hC hkz, (zPc_at (as := (2, x) :: as) hCx hW hS).2⟩ rfl (by rw [List.length_map]; exact hn5) hls (by rw [List.map_cons, List.reverse_cons, List.append_assoc]; rfl) (lv_room hcat) hd ⟨hcc, hss⟩
end SO10
