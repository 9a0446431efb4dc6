/-! THE OPERATIONS AGAINST THE INSTRUCTIONS: calls, ends, copies -/
section SO9
variable {l : Launch} {D : va_G} {γ : Nat → ClassId} {τ : Nat → Nat} {L : Nat} {xs : Nat → Int32} {k i pc : Nat} {B : ByteArray} {P : List Nat}
theorem zVOK.r9 {n : Nat} {x : Int} : zVOK n (9, x) := .of9
/-- a call, and what comes behind it -/
theorem zcall_goal {c n nl kd : Nat} {st lo : List zV} {M M1 M' : zM} {X X1 X' : zX} {v r : zV} (hP : zpcs k = P) (hB : zb k = B) (hp : P[i]? = some pc) (hq : P[i + 1]? = some (pc + 3)) (hrun : zRun l D γ τ L xs k c n kd B pc) (hc : zMOk c) (hnl : nl = zml c)
    (harg : zarg st n nl = true) (hkd : kd ≠ 0 → ((st.take n).reverse.headD (9, 0)).1 = 2 ∧ zkd X ((st.take n).reverse.headD (9, 0)).2 = (kd, 0))
    (g1 : zGoal l D γ τ L xs c 0 [] (zloc nl (st.take n).reverse) M X v M1 X1) (hv : v.1 = 0 ∨ v.1 = 1 ∨ v.1 = 9) (g2 : zGoal l D γ τ L xs k (i + 1) ((if v.1 < 8 then [v] else []) ++ st.drop n) lo M1 X1 r M' X') : zGoal l D γ τ L xs k i st lo M X r M' X' := by
  subst hnl
  obtain ⟨⟨t1, a1⟩, a2, a3, -⟩ := id g1
  obtain ⟨⟨t2, b1⟩, b2, b3, b4⟩ := g2
  have hlen : X.1.length ≤ X1.1.length := by rw [a1, List.length_append]; omega
  refine ⟨⟨t1 ++ t2, by rw [b1, a1, List.append_assoc]⟩, by omega, by omega, ?_⟩
  intro p e R s m args below meth cd A hC ρ H locs ls hW hS hL hs hl cells slots Q hcc hss hend
  unfold zarg at harg
  rw [Bool.and_eq_true, Bool.and_eq_true] at harg
  have hn : n ≤ st.length := Nat.le_of_ble_eq_true harg.1.2
  have hsc : zcat (st.drop n) ≤ 8 := Nat.le_of_ble_eq_true harg.1.1
  have hnp := Nat.le_of_ble_eq_true harg.2
  have hsplit : st = (st.take n).reverse.reverse ++ st.drop n := by rw [List.reverse_reverse, List.take_append_drop]
  have hok : zsOK X.1.length (st.take n).reverse := fun w hw => hs w (List.mem_of_mem_take (List.mem_reverse.mp hw))
  have hokd : zsOK X.1.length (st.drop n) := fun w hw => hs w (List.mem_of_mem_drop hw)
  have hM := zMet (sz := H.size) (ρ := ρ) hc hnp g1 (by omega) hok
  have hfr := zPc_at (as := (st.take n).reverse) hC hW hS
  have hmap : st.map (zcv τ ρ) = ((st.take n).reverse.map (zcv τ ρ)).reverse ++ (st.drop n).map (zcv τ ρ) := by
    rw [← List.map_reverse, List.reverse_reverse, ← List.map_append, List.take_append_drop]
  rw [zpc_of hP hp, hmap]
  refine zcall (M1 := M1) (X1 := X1) (r := v) (hrun p e R s m args below meth cd A hC (hC.1.2.1.trans hB) ρ H locs ls _ _ M M1 X X1 v cells slots hW hS hL.2.1 (by rw [List.length_reverse, List.length_take]; omega) hkd (by rw [zcat_eq]; exact hsc) (by omega) (by omega) hM) hS hfr.1 ?_
  intro ρ1 H1 locs1 hv1 hv2 hr1 hW1 hS1
  have hk := b4 p e R s m args below meth cd A hC ρ1 H1 locs1 ls hW1 hS1 ⟨hL.1, by rw [zlvl_ext hr1 hl]; exact hL.2⟩ (by
    intro w hw
    rcases List.mem_append.mp hw with q | q
    · split at q
      · rw [List.mem_singleton.mp q]; exact hv1
      · exact absurd q List.not_mem_nil
    · exact (hokd w q).mono hlen) (hl.mono hlen) (cells + (X.2.1 - X1.2.1)) (slots + (X.2.2 - X1.2.2)) Q (by omega) (by omega) (fun i' ρ' H' locs' ls' cs ss he hr' hW' hS' hls hcs => hend i' ρ' H' locs' ls' cs ss he (fun q hq => (hr' q (by omega)).trans (hr1 q hq)) hW' hS' hls (by
      split at hcs
      · rename_i h8
        rw [if_pos h8]; omega
      · rename_i h8
        rw [if_neg h8]; omega))
  rw [zpc_of hP hq, List.map_append, zst_ext hokd hr1] at hk
  have e : (if v.1 < 8 then [v] else []).map (zcv τ ρ1) = (zrv τ ρ v).toList := by
    obtain ⟨t, y⟩ := v
    rcases hv with h | h | h
    · have h : t = 0 := h
      subst h; rfl
    · have h : t = 1 := h
      subst h; rfl
    · have h : t = 9 := h
      subst h; rfl
  rw [e] at hk
  exact hk
theorem zbI_some {o : Option zR} {g : Int → zM → zX → Option zR} {r : zR} (h : zbI o g = some r) : ∃ v M X, o = some ((0, v), M, X) ∧ g v M X = some r := by
  unfold zbI at h
  split at h
  · exact ⟨_, _, _, rfl, h⟩
  · cases h
theorem zbL_some {o : Option zR} {g : Int → zM → zX → Option zR} {r : zR} (h : zbL o g = some r) : ∃ v M X, o = some ((1, v), M, X) ∧ g v M X = some r := by
  unfold zbL at h
  split at h
  · exact ⟨_, _, _, rfl, h⟩
  · cases h
theorem zbN_some {o : Option zR} {g : zM → zX → Option zR} {r : zR} (h : zbN o g = some r) : ∃ v M X, o = some ((9, v), M, X) ∧ g M X = some r := by
  unfold zbN at h
  split at h
  · exact ⟨_, _, _, rfl, h⟩
  · cases h

theorem so_callI {c n nl : Nat} (hp : P[i]? = some pc) (hq : P[i + 1]? = some (pc + 3)) (hrun : zRun l D γ τ L xs k c n 0 B pc) (hc : zMOk c ∧ nl = zml c) : zSO l D γ τ L xs k B P i (zo_callI c n nl) := by
  intro hB hP F hF st lo M X r M' X' h
  unfold zo_callI at h
  split at h
  · rename_i harg
    obtain ⟨v, M1, X1, h1, h2⟩ := zbI_some h
    exact zcall_goal (kd := 0) hP hB hp hq hrun hc.1 hc.2 harg (fun z => absurd rfl z) (hF _ _ _ _ _ _ _ _ _ h1) (Or.inl rfl) (hF _ _ _ _ _ _ _ _ _ h2)
  · cases h
theorem so_vcallI {c n nl kd : Nat} (hp : P[i]? = some pc) (hq : P[i + 1]? = some (pc + 3)) (hrun : zRun l D γ τ L xs k c n kd B pc) (hc : zMOk c ∧ nl = zml c) : zSO l D γ τ L xs k B P i (zo_vcallI c n nl kd) := by
  intro hB hP F hF st lo M X r M' X' h
  unfold zo_vcallI at h
  split at h
  · rename_i harg
    rw [Bool.and_eq_true] at harg
    obtain ⟨hz, h⟩ := zg_some h
    obtain ⟨v, M1, X1, h1, h2⟩ := zbI_some h
    exact zcall_goal (kd := kd) hP hB hp hq hrun hc.1 hc.2 harg.1 (fun _ => ⟨Nat.eq_of_beq_eq_true harg.2, hz⟩) (hF _ _ _ _ _ _ _ _ _ h1) (Or.inl rfl) (hF _ _ _ _ _ _ _ _ _ h2)
  · cases h

theorem so_callL {c n nl : Nat} (hp : P[i]? = some pc) (hq : P[i + 1]? = some (pc + 3)) (hrun : zRun l D γ τ L xs k c n 0 B pc) (hc : zMOk c ∧ nl = zml c) : zSO l D γ τ L xs k B P i (zo_callL c n nl) := by
  intro hB hP F hF st lo M X r M' X' h
  unfold zo_callL at h
  split at h
  · rename_i harg
    obtain ⟨v, M1, X1, h1, h2⟩ := zbL_some h
    exact zcall_goal (kd := 0) hP hB hp hq hrun hc.1 hc.2 harg (fun z => absurd rfl z) (hF _ _ _ _ _ _ _ _ _ h1) (Or.inr (Or.inl rfl)) (hF _ _ _ _ _ _ _ _ _ h2)
  · cases h
theorem so_vcallL {c n nl kd : Nat} (hp : P[i]? = some pc) (hq : P[i + 1]? = some (pc + 3)) (hrun : zRun l D γ τ L xs k c n kd B pc) (hc : zMOk c ∧ nl = zml c) : zSO l D γ τ L xs k B P i (zo_vcallL c n nl kd) := by
  intro hB hP F hF st lo M X r M' X' h
  unfold zo_vcallL at h
  split at h
  · rename_i harg
    rw [Bool.and_eq_true] at harg
    obtain ⟨hz, h⟩ := zg_some h
    obtain ⟨v, M1, X1, h1, h2⟩ := zbL_some h
    exact zcall_goal (kd := kd) hP hB hp hq hrun hc.1 hc.2 harg.1 (fun _ => ⟨Nat.eq_of_beq_eq_true harg.2, hz⟩) (hF _ _ _ _ _ _ _ _ _ h1) (Or.inr (Or.inl rfl)) (hF _ _ _ _ _ _ _ _ _ h2)
  · cases h

theorem so_callN {c n nl : Nat} (hp : P[i]? = some pc) (hq : P[i + 1]? = some (pc + 3)) (hrun : zRun l D γ τ L xs k c n 0 B pc) (hc : zMOk c ∧ nl = zml c) : zSO l D γ τ L xs k B P i (zo_callN c n nl) := by
  intro hB hP F hF st lo M X r M' X' h
  unfold zo_callN at h
  split at h
  · rename_i harg
    obtain ⟨v, M1, X1, h1, h2⟩ := zbN_some h
    exact zcall_goal (kd := 0) hP hB hp hq hrun hc.1 hc.2 harg (fun z => absurd rfl z) (hF _ _ _ _ _ _ _ _ _ h1) (Or.inr (Or.inr rfl)) (hF _ _ _ _ _ _ _ _ _ h2)
  · cases h
theorem so_vcallN {c n nl kd : Nat} (hp : P[i]? = some pc) (hq : P[i + 1]? = some (pc + 3)) (hrun : zRun l D γ τ L xs k c n kd B pc) (hc : zMOk c ∧ nl = zml c) : zSO l D γ τ L xs k B P i (zo_vcallN c n nl kd) := by
  intro hB hP F hF st lo M X r M' X' h
  unfold zo_vcallN at h
  split at h
  · rename_i harg
    rw [Bool.and_eq_true] at harg
    obtain ⟨hz, h⟩ := zg_some h
    obtain ⟨v, M1, X1, h1, h2⟩ := zbN_some h
    exact zcall_goal (kd := kd) hP hB hp hq hrun hc.1 hc.2 harg.1 (fun _ => ⟨Nat.eq_of_beq_eq_true harg.2, hz⟩) (hF _ _ _ _ _ _ _ _ _ h1) (Or.inr (Or.inr rfl)) (hF _ _ _ _ _ _ _ _ _ h2)
  · cases h

theorem so_iret (hp : P[i]? = some pc) (hd : decode B pc = .ok (.ireturn, 1)) (hr : zrt k = some .int) : zSO l D γ τ L xs k B P i zo_iret := by
  intro hB hP F hF st lo M X r M' X' h
  unfold zo_iret at h
  split at h
  · rename_i v

    cases h
    refine ⟨⟨[], (List.append_nil _).symm⟩, Nat.le_refl _, Nat.le_refl _, ?_⟩
    intro p e R s m args below meth cd A hC ρ H locs ls hW hS hL hs hl cells slots Q hcc hss hend
    exact hend i ρ H locs ls cells slots ⟨by rw [zpc_of hP hp, hB]; exact hd, hs.cons.1.gi, Or.inl hr⟩ (fun _ _ => rfl) hW hS hL.2.1 (by simp)
  · cases h

theorem so_zret (hp : P[i]? = some pc) (hd : decode B pc = .ok (.ireturn, 1)) (hr : zrt k = some .boolean) : zSO l D γ τ L xs k B P i zo_zret := by
  intro hB hP F hF st lo M X r M' X' h
  unfold zo_zret at h
  split at h
  · rename_i v
    obtain ⟨hz, h⟩ := zg_some h
    cases h
    refine ⟨⟨[], (List.append_nil _).symm⟩, Nat.le_refl _, Nat.le_refl _, ?_⟩
    intro p e R s m args below meth cd A hC ρ H locs ls hW hS hL hs hl cells slots Q hcc hss hend
    exact hend i ρ H locs ls cells slots ⟨by rw [zpc_of hP hp, hB]; exact hd, hs.cons.1.gi, Or.inr ⟨hr, hz⟩⟩ (fun _ _ => rfl) hW hS hL.2.1 (by simp)
  · cases h

theorem so_lret (hp : P[i]? = some pc) (hd : decode B pc = .ok (.lreturn, 1)) (hr : zrt k = some .long) : zSO l D γ τ L xs k B P i zo_lret := by
  intro hB hP F hF st lo M X r M' X' h
  unfold zo_lret at h
  split at h
  · rename_i v

    cases h
    refine ⟨⟨[], (List.append_nil _).symm⟩, Nat.le_refl _, Nat.le_refl _, ?_⟩
    intro p e R s m args below meth cd A hC ρ H locs ls hW hS hL hs hl cells slots Q hcc hss hend
    exact hend i ρ H locs ls cells slots ⟨by rw [zpc_of hP hp, hB]; exact hd, hs.cons.1.gl, hr⟩ (fun _ _ => rfl) hW hS hL.2.1 (by simp)
  · cases h

theorem so_ret (hp : P[i]? = some pc) (hd : decode B pc = .ok (.return_, 1)) (hr : zrt k = none) : zSO l D γ τ L xs k B P i zo_ret := by
  intro hB hP F hF st lo M X r M' X' h
  unfold zo_ret at h
  split at h
  · skip

    cases h
    refine ⟨⟨[], (List.append_nil _).symm⟩, Nat.le_refl _, Nat.le_refl _, ?_⟩
    intro p e R s m args below meth cd A hC ρ H locs ls hW hS hL hs hl cells slots Q hcc hss hend
    exact hend i ρ H locs ls cells slots ⟨by rw [zpc_of hP hp, hB]; exact hd, hr⟩ (fun _ _ => rfl) hW hS hL.2.1 (by simp)
  · cases h

theorem so_acpy0 {idx : Nat} {own : String} (hp : P[i]? = some pc) (hq : P[i + 1]? = some (pc + 3)) (hd : decode B pc = .ok (.invokestatic idx, 3)) (ho : zow k = own) (hw : Cond.methodLink own idx arraycopyName ∈ zT ∧ Cond.native arraycopyName ∈ zT ∧ Cond.static arraycopyName ∈ zT ∧ Cond.initialized "java/lang/System" ∈ zT) (hr : 1 ≤ zlv k ∧ 60 ≤ zlc k) : zSO l D γ τ L xs k B P i (zo_acpy 0) := by
  intro hB hP F hF st lo M X r M' X' h
  unfold zo_acpy at h
  split at h
  · rename_i n dp b sp a st
    obtain ⟨⟨hza, hzb, hn0, hdp0, hsp0, hsn, hdn⟩, h9⟩ := zg_some h
    clear h
    split at h9
    · rename_i hsc
      obtain ⟨ha0, haK, hale, hac⟩ := zkd_arr hza (by omega)
      obtain ⟨hb0, hbK, hble, hbc⟩ := zkd_arr hzb (by omega)
      generalize (zkd X a).2 = na at haK hsn
      generalize (zkd X b).2 = nb at hbK hdn
      refine (hF _ _ _ _ _ _ _ _ _ h9).step _ _ _ _ _ _ ?_
      rintro p e R s m args below meth c A ⟨⟨hx, hb, hml, hown, hts, hfr, hlc, hnm, hht⟩, hPer, hA⟩ ρ H locs ls ⟨hWP, hWD, hWM, hWS⟩ hS hL hs hl cells slots Q kk
      have hn := hs.cons.1.gi
      have hdp := hs.cons.2.cons.1.gi
      have hsp := hs.cons.2.cons.2.cons.2.cons.1.gi
      rw [zpc_of hP hp]; rw [zpc_of hP hq] at kk
      rw [ho] at hown
      have hcat := Nat.le_of_ble_eq_true hsc
      rw [← zcat_eq (τ := τ) (ρ := ρ)] at hcat
      have hea := zwl_at (γ := γ) (ρ := ρ) (M := M) haK
      have heb := zwl_at (γ := γ) (ρ := ρ) (M := M) hbK
      have en := zcl' hn hn0
      have edp := zcl' hdp hdp0
      have esp := zcl' hsp hsp0
      have hM1 : zMOK X.1 (zcpy M a sp b dp n) := by
        intro q kd hk j hj
        by_cases hq2 : ((q : Int) + 1 = b ∧ dp ≤ (j : Int) ∧ (j : Int) < dp + n)
        · unfold zcpy
          rw [if_pos hq2]
          have e1 : q = (b - 1).toNat := by omega
          subst e1
          cases hk.symm.trans hbK
          have := hWM _ _ haK (sp + ((j : Int) - dp)).toNat (by show _ < na; omega)
          rw [hac, show (((sp + ((j : Int) - dp)).toNat : Nat) : Int) = sp + ((j : Int) - dp) by omega] at this
          exact this
        · unfold zcpy
          rw [if_neg hq2]
          exact hWM q kd hk j hj
      have hw1 := zwl_put (γ := γ) (ρ := ρ) hbK (zcpy M a sp b dp n) (fun x y hne => by
        unfold zcpy
        rw [if_neg (by omega)])
      have hnf : nativeFrameWords "java/lang/System" "arraycopy" 5 = 7 := by decide
      refine va_copyi hx (hb.trans hB) (by rw [hml, hL.2.1]) hown (hts _ hw.1) (hts _ hw.2.1) (hts _ hw.2.2.1) (hts _ hw.2.2.2) hPer.1 hWP hWD hS _ _ 0 0 hea heb rfl rfl rfl (by rw [z32z, z32lt hsp (by decide)]; omega) (by rw [z32z, z32lt hdp (by decide)]; omega) (by rw [z32z, z32lt hn (by decide)]; omega) (by rw [esp, en]; show _ ≤ na; omega) (by rw [edp, en]; show _ ≤ nb; omega) (fun _ _ => rfl) (by omega) (by rw [hnf]; omega) hd ?_
      intro H1 locs1 hP1 hD1 hS1
      have hcell : (Sum.inl (γ 0, nb, Sum.inl (va_cpy (fun y : Nat => Int32.ofInt (M ((((a - 1).toNat : Nat) : Int) + 1) (y : Int))) (fun y : Nat => Int32.ofInt (M ((((b - 1).toNat : Nat) : Int) + 1) (y : Int))) (Int32.ofInt sp).toNatClampNeg (Int32.ofInt dp).toNatClampNeg (Int32.ofInt n).toNatClampNeg)) : va_E) = zcell γ ρ (0, nb) (fun y => zcpy M a sp b dp n ((((b - 1).toNat : Nat) : Int) + 1) y) := by
        rw [esp, edp, en]
        show Sum.inl (_, _, Sum.inl _) = Sum.inl (_, _, Sum.inl _)
        congr 4
        funext y
        unfold va_cpy zcpy
        dsimp only
        rw [hac, hbc]
        by_cases hy : dp.toNat ≤ y ∧ y < dp.toNat + n.toNat
        · rw [if_pos hy, if_pos (by omega)]
          congr 2
          omega
        · rw [if_neg hy, if_neg (by omega)]
      have hP2 : va_P D vwCl (zwl γ ρ X.1 (zcpy M a sp b dp n)) H1 := by rw [hw1, ← hcell]; exact hP1
      have hD2 : va_D A (zwl γ ρ X.1 (zcpy M a sp b dp n)) := by rw [hw1, ← hcell]; exact hD1
      refine kk H1 locs1 ls ⟨hP2, hD2, hM1, ?_, fun y hy => ?_⟩ hS1 hL hs.cons.2.cons.2.cons.2.cons.2.cons.2 hl
      · unfold zcpy
        rw [if_neg (by omega)]; exact hWS.1
      · unfold zcpy
        rw [if_neg (by omega)]; exact hWS.2 y hy
    · cases h9
  · cases h

theorem so_acpy1 {idx : Nat} {own : String} (hp : P[i]? = some pc) (hq : P[i + 1]? = some (pc + 3)) (hd : decode B pc = .ok (.invokestatic idx, 3)) (ho : zow k = own) (hw : Cond.methodLink own idx arraycopyName ∈ zT ∧ Cond.native arraycopyName ∈ zT ∧ Cond.static arraycopyName ∈ zT ∧ Cond.initialized "java/lang/System" ∈ zT) (hr : 1 ≤ zlv k ∧ 60 ≤ zlc k) : zSO l D γ τ L xs k B P i (zo_acpy 1) := by
  intro hB hP F hF st lo M X r M' X' h
  unfold zo_acpy at h
  split at h
  · rename_i n dp b sp a st
    obtain ⟨⟨hza, hzb, hn0, hdp0, hsp0, hsn, hdn⟩, h9⟩ := zg_some h
    clear h
    split at h9
    · rename_i hsc
      obtain ⟨ha0, haK, hale, hac⟩ := zkd_arr hza (by omega)
      obtain ⟨hb0, hbK, hble, hbc⟩ := zkd_arr hzb (by omega)
      generalize (zkd X a).2 = na at haK hsn
      generalize (zkd X b).2 = nb at hbK hdn
      refine (hF _ _ _ _ _ _ _ _ _ h9).step _ _ _ _ _ _ ?_
      rintro p e R s m args below meth c A ⟨⟨hx, hb, hml, hown, hts, hfr, hlc, hnm, hht⟩, hPer, hA⟩ ρ H locs ls ⟨hWP, hWD, hWM, hWS⟩ hS hL hs hl cells slots Q kk
      have hn := hs.cons.1.gi
      have hdp := hs.cons.2.cons.1.gi
      have hsp := hs.cons.2.cons.2.cons.2.cons.1.gi
      rw [zpc_of hP hp]; rw [zpc_of hP hq] at kk
      rw [ho] at hown
      have hcat := Nat.le_of_ble_eq_true hsc
      rw [← zcat_eq (τ := τ) (ρ := ρ)] at hcat
      have hea := zwl_at (γ := γ) (ρ := ρ) (M := M) haK
      have heb := zwl_at (γ := γ) (ρ := ρ) (M := M) hbK
      have en := zcl' hn hn0
      have edp := zcl' hdp hdp0
      have esp := zcl' hsp hsp0
      have hM1 : zMOK X.1 (zcpy M a sp b dp n) := by
        intro q kd hk j hj
        by_cases hq2 : ((q : Int) + 1 = b ∧ dp ≤ (j : Int) ∧ (j : Int) < dp + n)
        · unfold zcpy
          rw [if_pos hq2]
          have e1 : q = (b - 1).toNat := by omega
          subst e1
          cases hk.symm.trans hbK
          have := hWM _ _ haK (sp + ((j : Int) - dp)).toNat (by show _ < na; omega)
          rw [hac, show (((sp + ((j : Int) - dp)).toNat : Nat) : Int) = sp + ((j : Int) - dp) by omega] at this
          exact this
        · unfold zcpy
          rw [if_neg hq2]
          exact hWM q kd hk j hj
      have hw1 := zwl_put (γ := γ) (ρ := ρ) hbK (zcpy M a sp b dp n) (fun x y hne => by
        unfold zcpy
        rw [if_neg (by omega)])
      have hnf : nativeFrameWords "java/lang/System" "arraycopy" 5 = 7 := by decide
      refine va_copyl hx (hb.trans hB) (by rw [hml, hL.2.1]) hown (hts _ hw.1) (hts _ hw.2.1) (hts _ hw.2.2.1) (hts _ hw.2.2.2) hPer.1 hWP hWD hS _ _ 1 1 hea heb rfl rfl rfl (by rw [z32z, z32lt hsp (by decide)]; omega) (by rw [z32z, z32lt hdp (by decide)]; omega) (by rw [z32z, z32lt hn (by decide)]; omega) (by rw [esp, en]; show _ ≤ na; omega) (by rw [edp, en]; show _ ≤ nb; omega) (fun _ _ => rfl) (by omega) (by rw [hnf]; omega) hd ?_
      intro H1 locs1 hP1 hD1 hS1
      have hcell : (Sum.inl (γ 1, nb, Sum.inr (Sum.inl (va_cpy (fun y : Nat => Int64.ofInt (M ((((a - 1).toNat : Nat) : Int) + 1) (y : Int))) (fun y : Nat => Int64.ofInt (M ((((b - 1).toNat : Nat) : Int) + 1) (y : Int))) (Int32.ofInt sp).toNatClampNeg (Int32.ofInt dp).toNatClampNeg (Int32.ofInt n).toNatClampNeg))) : va_E) = zcell γ ρ (1, nb) (fun y => zcpy M a sp b dp n ((((b - 1).toNat : Nat) : Int) + 1) y) := by
        rw [esp, edp, en]
        show Sum.inl (_, _, Sum.inr (Sum.inl _)) = Sum.inl (_, _, Sum.inr (Sum.inl _))
        congr 5
        funext y
        unfold va_cpy zcpy
        dsimp only
        rw [hac, hbc]
        by_cases hy : dp.toNat ≤ y ∧ y < dp.toNat + n.toNat
        · rw [if_pos hy, if_pos (by omega)]
          congr 2
          omega
        · rw [if_neg hy, if_neg (by omega)]
      have hP2 : va_P D vwCl (zwl γ ρ X.1 (zcpy M a sp b dp n)) H1 := by rw [hw1, ← hcell]; exact hP1
      have hD2 : va_D A (zwl γ ρ X.1 (zcpy M a sp b dp n)) := by rw [hw1, ← hcell]; exact hD1
      refine kk H1 locs1 ls ⟨hP2, hD2, hM1, ?_, fun y hy => ?_⟩ hS1 hL hs.cons.2.cons.2.cons.2.cons.2.cons.2 hl
      · unfold zcpy
        rw [if_neg (by omega)]; exact hWS.1
      · unfold zcpy
        rw [if_neg (by omega)]; exact hWS.2 y hy
    · cases h9
  · cases h

end SO9
