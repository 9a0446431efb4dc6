/-! THE OPERATIONS AGAINST THE INSTRUCTIONS: arrays, and what is made -/
section SO4
variable {l : Launch} {D : va_G} {γ : Nat → ClassId} {τ : Nat → Nat} {L : Nat} {xs : Nat → Int32} {k i pc : Nat} {B : ByteArray} {P : List Nat}
theorem zkd_arr {X : zX} {r : Int} {t : Nat} (h : (zkd X r).1 = t) (ht : t < 6) : 0 < r ∧ X.1[(r - 1).toNat]? = some (t, (zkd X r).2) ∧ r ≤ (X.1.length : Int) ∧ (((r - 1).toNat : Nat) : Int) + 1 = r := by
  have h1 : zkd X r = (t, (zkd X r).2) := by rw [← h]
  exact zkd_some h1 (by show t < 99; omega)

theorem so_iald (hp : P[i]? = some pc) (hq : P[i + 1]? = some (pc + 1)) (hd : decode B pc = .ok (.iaload, 1)) : zSO l D γ τ L xs k B P i zo_iald := by
  intro hB hP F hF st lo M X r M' X' h
  unfold zo_iald at h
  split at h
  · rename_i j a st
    obtain ⟨⟨hz, hj0, hj1⟩, h9⟩ := zg_some h
    clear h
    obtain ⟨h0, hK, hle, hcast⟩ := zkd_arr hz (by omega)
    generalize (zkd X a).2 = n at hj1 hK
    refine (hF _ _ _ _ _ _ _ _ _ h9).step _ _ _ _ _ _ ?_
    rintro p e R s m args below meth c A ⟨⟨hx, hb, hml, hown, hts, -⟩, hPer, hA⟩ ρ H locs ls ⟨hWP, hWD, hWM, hWS⟩ hS hL hs hl cells slots Q kk
    have hj := hs.cons.1.gi
    have hok := hWM _ _ hK j.toNat (by show j.toNat < n; omega)
    have hjc : ((j.toNat : Nat) : Int) = j := by omega
    rw [hcast, hjc] at hok
    have kk := kk H locs ls ⟨hWP, hWD, hWM, hWS⟩ hS hL (zsOK.mk (.of0 (hok.1 rfl)) hs.cons.2.cons.2) hl
    rw [zpc_of hP hp]; rw [zpc_of hP hq] at kk
    have he := zwl_at (γ := γ) (ρ := ρ) (M := M) hK
    refine va_iald hx (hb.trans hB) hPer.1 hWP _ 0 he rfl (zin hj hj0 hj1) hd ?_
    rw [zcl' hj hj0, hcast, hjc]
    exact kk
  · cases h

theorem so_lald (hp : P[i]? = some pc) (hq : P[i + 1]? = some (pc + 1)) (hd : decode B pc = .ok (.laload, 1)) : zSO l D γ τ L xs k B P i zo_lald := by
  intro hB hP F hF st lo M X r M' X' h
  unfold zo_lald at h
  split at h
  · rename_i j a st
    obtain ⟨⟨hz, hj0, hj1⟩, h9⟩ := zg_some h
    clear h
    obtain ⟨h0, hK, hle, hcast⟩ := zkd_arr hz (by omega)
    generalize (zkd X a).2 = n at hj1 hK
    refine (hF _ _ _ _ _ _ _ _ _ h9).step _ _ _ _ _ _ ?_
    rintro p e R s m args below meth c A ⟨⟨hx, hb, hml, hown, hts, -⟩, hPer, hA⟩ ρ H locs ls ⟨hWP, hWD, hWM, hWS⟩ hS hL hs hl cells slots Q kk
    have hj := hs.cons.1.gi
    have hok := hWM _ _ hK j.toNat (by show j.toNat < n; omega)
    have hjc : ((j.toNat : Nat) : Int) = j := by omega
    rw [hcast, hjc] at hok
    have kk := kk H locs ls ⟨hWP, hWD, hWM, hWS⟩ hS hL (zsOK.mk (.of1 (hok.2.1 rfl)) hs.cons.2.cons.2) hl
    rw [zpc_of hP hp]; rw [zpc_of hP hq] at kk
    have he := zwl_at (γ := γ) (ρ := ρ) (M := M) hK
    refine va_lald hx (hb.trans hB) hPer.1 hWP _ 1 he rfl (zin hj hj0 hj1) hd ?_
    rw [zcl' hj hj0, hcast, hjc]
    exact kk
  · cases h

theorem so_bald (hp : P[i]? = some pc) (hq : P[i + 1]? = some (pc + 1)) (hd : decode B pc = .ok (.baload, 1)) : zSO l D γ τ L xs k B P i zo_bald := by
  intro hB hP F hF st lo M X r M' X' h
  unfold zo_bald at h
  split at h
  · rename_i j a st
    obtain ⟨⟨hz, hj0, hj1⟩, h9⟩ := zg_some h
    clear h
    obtain ⟨h0, hK, hle, hcast⟩ := zkd_arr hz (by omega)
    generalize (zkd X a).2 = n at hj1 hK
    refine (hF _ _ _ _ _ _ _ _ _ h9).step _ _ _ _ _ _ ?_
    rintro p e R s m args below meth c A ⟨⟨hx, hb, hml, hown, hts, -⟩, hPer, hA⟩ ρ H locs ls ⟨hWP, hWD, hWM, hWS⟩ hS hL hs hl cells slots Q kk
    have hj := hs.cons.1.gi
    have hok := hWM _ _ hK j.toNat (by show j.toNat < n; omega)
    have hjc : ((j.toNat : Nat) : Int) = j := by omega
    rw [hcast, hjc] at hok
    have kk := kk H locs ls ⟨hWP, hWD, hWM, hWS⟩ hS hL (zsOK.mk (.of0 (hok.1 rfl)) hs.cons.2.cons.2) hl
    rw [zpc_of hP hp]; rw [zpc_of hP hq] at kk
    have he := zwl_at (γ := γ) (ρ := ρ) (M := M) hK
    refine va_zald hx (hb.trans hB) hPer.1 hWP _ 2 he rfl (zin hj hj0 hj1) hd ?_
    rw [zcl' hj hj0, hcast, hjc]
    exact kk
  · cases h

theorem va_aldA {p : Program} {l : Launch} {e : Env} {R : Room} {s : State} {m : MethodId} {args : Array Value} {below : List Frame} {meth : Method} {c : Code} {H : Heap} {locs : List Loc} {cells slots : Nat} {Q : State → Prop} {pc : Nat} {ls : Array Slot} {rest : List Value} {D : va_G} {cl : List vw_C} {a : Nat} {tys : List (ClassId × FieldType)} {ws : va_W} {cc : ByteArray}
    (hexec : p.tables.exec = Jvm.exec) (hb : c.code = cc) (hK : va_K D cl tys s) (hP : va_P D cl ws H) (q0 t0 : Nat) {cA : ClassId} {C : FieldType} {n : Nat} {f : Nat → Option Nat} (ha : ws[q0]? = some (a, .inl (cA, n, .inr (.inr (.inr (.inr f)))))) (ht : tys[t0]? = some (cA, .array C)) {i : Int32} (hin : vp_in i n) (hdg : decode cc pc = .ok (.aaload, 1))
    (kk : W p l e R s m args below meth c H locs cells slots Q (F0 m (pc + 1) ls (va_rf (f i.toNatClampNeg) :: rest))) : W p l e R s m args below meth c H locs cells slots Q (F0 m pc ls (.int i :: .ref a :: rest)) := by
  have hlt : i.toNatClampNeg < n := Nat.not_le.mp fun q => hin (Or.inr q)
  exact W.aald (v := va_rf (f i.toNatClampNeg)) (ty := .array C) hexec hb (hP q0 _ ha) ((hK.2 t0 _ ht).1 n (fun j => va_rf (f j))) rfl (fun q => by cases q) (by show ¬ (i < 0 ∨ (arrV _ _ _).slots.size ≤ _); rw [arrV_size]; exact hin) (by show (arrV _ _ _).slots[_]? = _; rw [arrV_read _ _ hlt]) rfl rfl hdg kk

theorem so_aald3 (hp : P[i]? = some pc) (hq : P[i + 1]? = some (pc + 1)) (hd : decode B pc = .ok (.aaload, 1)) : zSO l D γ τ L xs k B P i (zo_aald 3) := by
  intro hB hP F hF st lo M X r M' X' h
  unfold zo_aald at h
  split at h
  · rename_i j a st
    obtain ⟨⟨hz, hj0, hj1, hnn⟩, h9⟩ := zg_some h
    clear h
    obtain ⟨h0, hK, hle, hcast⟩ := zkd_arr hz (by omega)
    generalize (zkd X a).2 = n at hj1 hK
    refine (hF _ _ _ _ _ _ _ _ _ h9).step _ _ _ _ _ _ ?_
    rintro p e R s m args below meth c A ⟨⟨hx, hb, hml, hown, hts, -⟩, hPer, hA⟩ ρ H locs ls ⟨hWP, hWD, hWM, hWS⟩ hS hL hs hl cells slots Q kk
    have hj := hs.cons.1.gi
    have hok := hWM _ _ hK j.toNat (by show j.toNat < n; omega)
    have hjc : ((j.toNat : Nat) : Int) = j := by omega
    rw [hcast, hjc] at hok
    have kk := kk H locs ls ⟨hWP, hWD, hWM, hWS⟩ hS hL (zsOK.mk (.of2 ⟨hnn, (hok.2.2 rfl).2⟩) hs.cons.2.cons.2) hl
    rw [zpc_of hP hp]; rw [zpc_of hP hq] at kk
    have he := zwl_at (γ := γ) (ρ := ρ) (M := M) hK
    have e3 : va_rf (zrf ρ (M a j)) = .ref (ρ (M a j - 1).toNat) := by
      unfold zrf
      rw [if_neg (by omega)]
      rfl
    refine va_aldq hx (hb.trans hB) hPer.1 hWP _ 3 he rfl (zin hj hj0 hj1) hd ?_
    rw [zcl' hj hj0]
    show W p l e R s m args below meth c H locs cells slots Q (F0 m (pc + 1) ls (va_rf (if j.toNat < n then zrf ρ (M ((((a - 1).toNat : Nat) : Int) + 1) ((j.toNat : Nat) : Int)) else none) :: List.map (zcv τ ρ) st))
    rw [if_pos (by omega), hcast, hjc, e3]
    exact kk
  · cases h

theorem so_aald4 (hp : P[i]? = some pc) (hq : P[i + 1]? = some (pc + 1)) (hd : decode B pc = .ok (.aaload, 1)) : zSO l D γ τ L xs k B P i (zo_aald 4) := by
  intro hB hP F hF st lo M X r M' X' h
  unfold zo_aald at h
  split at h
  · rename_i j a st
    obtain ⟨⟨hz, hj0, hj1, hnn⟩, h9⟩ := zg_some h
    clear h
    obtain ⟨h0, hK, hle, hcast⟩ := zkd_arr hz (by omega)
    generalize (zkd X a).2 = n at hj1 hK
    refine (hF _ _ _ _ _ _ _ _ _ h9).step _ _ _ _ _ _ ?_
    rintro p e R s m args below meth c A ⟨⟨hx, hb, hml, hown, hts, -⟩, hPer, hA⟩ ρ H locs ls ⟨hWP, hWD, hWM, hWS⟩ hS hL hs hl cells slots Q kk
    have hj := hs.cons.1.gi
    have hok := hWM _ _ hK j.toNat (by show j.toNat < n; omega)
    have hjc : ((j.toNat : Nat) : Int) = j := by omega
    rw [hcast, hjc] at hok
    have kk := kk H locs ls ⟨hWP, hWD, hWM, hWS⟩ hS hL (zsOK.mk (.of2 ⟨hnn, (hok.2.2 rfl).2⟩) hs.cons.2.cons.2) hl
    rw [zpc_of hP hp]; rw [zpc_of hP hq] at kk
    have he := zwl_at (γ := γ) (ρ := ρ) (M := M) hK
    have e3 : va_rf (zrf ρ (M a j)) = .ref (ρ (M a j - 1).toNat) := by
      unfold zrf
      rw [if_neg (by omega)]
      rfl
    refine va_aldq hx (hb.trans hB) hPer.1 hWP _ 4 he rfl (zin hj hj0 hj1) hd ?_
    rw [zcl' hj hj0]
    show W p l e R s m args below meth c H locs cells slots Q (F0 m (pc + 1) ls (va_rf (if j.toNat < n then zrf ρ (M ((((a - 1).toNat : Nat) : Int) + 1) ((j.toNat : Nat) : Int)) else none) :: List.map (zcv τ ρ) st))
    rw [if_pos (by omega), hcast, hjc, e3]
    exact kk
  · cases h

theorem so_aald5 (hp : P[i]? = some pc) (hq : P[i + 1]? = some (pc + 1)) (hd : decode B pc = .ok (.aaload, 1)) : zSO l D γ τ L xs k B P i (zo_aald 5) := by
  intro hB hP F hF st lo M X r M' X' h
  unfold zo_aald at h
  split at h
  · rename_i j a st
    obtain ⟨⟨hz, hj0, hj1, hnn⟩, h9⟩ := zg_some h
    clear h
    obtain ⟨h0, hK, hle, hcast⟩ := zkd_arr hz (by omega)
    generalize (zkd X a).2 = n at hj1 hK
    refine (hF _ _ _ _ _ _ _ _ _ h9).step _ _ _ _ _ _ ?_
    rintro p e R s m args below meth c A ⟨⟨hx, hb, hml, hown, hts, -⟩, hPer, hA⟩ ρ H locs ls ⟨hWP, hWD, hWM, hWS⟩ hS hL hs hl cells slots Q kk
    have hj := hs.cons.1.gi
    have hok := hWM _ _ hK j.toNat (by show j.toNat < n; omega)
    have hjc : ((j.toNat : Nat) : Int) = j := by omega
    rw [hcast, hjc] at hok
    have kk := kk H locs ls ⟨hWP, hWD, hWM, hWS⟩ hS hL (zsOK.mk (.of2 ⟨hnn, (hok.2.2 rfl).2⟩) hs.cons.2.cons.2) hl
    rw [zpc_of hP hp]; rw [zpc_of hP hq] at kk
    have he := zwl_at (γ := γ) (ρ := ρ) (M := M) hK
    have e3 : va_rf (zrf ρ (M a j)) = .ref (ρ (M a j - 1).toNat) := by
      unfold zrf
      rw [if_neg (by omega)]
      rfl
    refine va_aldA hx (hb.trans hB) hPer.1 hWP _ 5 he rfl (zin hj hj0 hj1) hd ?_
    rw [zcl' hj hj0]
    show W p l e R s m args below meth c H locs cells slots Q (F0 m (pc + 1) ls (va_rf (if j.toNat < n then zrf ρ (M ((((a - 1).toNat : Nat) : Int) + 1) ((j.toNat : Nat) : Int)) else none) :: List.map (zcv τ ρ) st))
    rw [if_pos (by omega), hcast, hjc, e3]
    exact kk
  · cases h

theorem so_iast (hp : P[i]? = some pc) (hq : P[i + 1]? = some (pc + 1)) (hd : decode B pc = .ok (.iastore, 1)) : zSO l D γ τ L xs k B P i zo_iast := by
  intro hB hP F hF st lo M X r M' X' h
  unfold zo_iast at h
  split at h
  · rename_i v j a st
    obtain ⟨⟨hz, hj0, hj1⟩, h9⟩ := zg_some h
    clear h
    obtain ⟨h0, hK, hle, hcast⟩ := zkd_arr hz (by omega)
    generalize (zkd X a).2 = n at hj1 hK
    refine (hF _ _ _ _ _ _ _ _ _ h9).step _ _ _ _ _ _ ?_
    rintro p e R s m args below meth c A ⟨⟨hx, hb, hml, hown, hts, -⟩, hPer, hA⟩ ρ H locs ls ⟨hWP, hWD, hWM, hWS⟩ hS hL hs hl cells slots Q kk
    have hv := hs.cons.1
    have hj := hs.cons.2.cons.1.gi
    have hjc : ((j.toNat : Nat) : Int) = j := by omega
    rw [zpc_of hP hp]; rw [zpc_of hP hq] at kk
    have he := zwl_at (γ := γ) (ρ := ρ) (M := M) hK
    have hM1 : zMOK X.1 (zu M a j v) := by
      have := hWM.put (q := (a - 1).toNat) (jn := j.toNat) (v := v) (fun kd hk _ => by
        cases hk.symm.trans hK
        exact ⟨fun _ => hv.gi, fun q => (by cases q), fun q => (by cases q)⟩)
      rw [hcast, hjc] at this
      exact this
    have hw1 := zwl_put (γ := γ) (ρ := ρ) hK (zu M a j v) (fun x y hne => zu_ne (by rw [hcast] at hne; exact fun z => hne z.1))
    refine va_iast hx (hb.trans hB) hPer.1 hWP hWD hS _ 0 he rfl (zin hj hj0 hj1) hd ?_
    intro H1 locs1 hP1 hD1 hS1
    have hcell : (Sum.inl (γ 0, n, .inl (upd (fun y : Nat => Int32.ofInt (M ((((a - 1).toNat : Nat) : Int) + 1) (y : Int))) (Int32.ofInt j).toNatClampNeg (Int32.ofInt v))) : va_E) = zcell γ ρ (0, n) (fun y => zu M a j v ((((a - 1).toNat : Nat) : Int) + 1) y) := by
      rw [zcl' hj hj0, hcast]
      show Sum.inl (_, _, Sum.inl _) = Sum.inl (_, _, Sum.inl _)
      congr 4
      funext y
      unfold upd
      by_cases hy : y = j.toNat
      · subst hy
        rw [if_pos rfl, hjc]
        dsimp only
        rw [zu_same]
      · rw [if_neg hy]
        dsimp only
        rw [zu_ne (by omega)]
    have hP2 : va_P D vwCl (zwl γ ρ X.1 (zu M a j v)) H1 := by rw [hw1, ← hcell]; exact hP1
    have hD2 : va_D A (zwl γ ρ X.1 (zu M a j v)) := by rw [hw1, ← hcell]; exact hD1
    exact kk H1 locs1 ls ⟨hP2, hD2, hM1, hWS.put h0⟩ hS1 hL hs.cons.2.cons.2.cons.2 hl
  · cases h

theorem so_last (hp : P[i]? = some pc) (hq : P[i + 1]? = some (pc + 1)) (hd : decode B pc = .ok (.lastore, 1)) : zSO l D γ τ L xs k B P i zo_last := by
  intro hB hP F hF st lo M X r M' X' h
  unfold zo_last at h
  split at h
  · rename_i v j a st
    obtain ⟨⟨hz, hj0, hj1⟩, h9⟩ := zg_some h
    clear h
    obtain ⟨h0, hK, hle, hcast⟩ := zkd_arr hz (by omega)
    generalize (zkd X a).2 = n at hj1 hK
    refine (hF _ _ _ _ _ _ _ _ _ h9).step _ _ _ _ _ _ ?_
    rintro p e R s m args below meth c A ⟨⟨hx, hb, hml, hown, hts, -⟩, hPer, hA⟩ ρ H locs ls ⟨hWP, hWD, hWM, hWS⟩ hS hL hs hl cells slots Q kk
    have hv := hs.cons.1
    have hj := hs.cons.2.cons.1.gi
    have hjc : ((j.toNat : Nat) : Int) = j := by omega
    rw [zpc_of hP hp]; rw [zpc_of hP hq] at kk
    have he := zwl_at (γ := γ) (ρ := ρ) (M := M) hK
    have hM1 : zMOK X.1 (zu M a j v) := by
      have := hWM.put (q := (a - 1).toNat) (jn := j.toNat) (v := v) (fun kd hk _ => by
        cases hk.symm.trans hK
        exact ⟨fun q => (by cases q), fun _ => hv.gl, fun q => (by cases q)⟩)
      rw [hcast, hjc] at this
      exact this
    have hw1 := zwl_put (γ := γ) (ρ := ρ) hK (zu M a j v) (fun x y hne => zu_ne (by rw [hcast] at hne; exact fun z => hne z.1))
    refine va_last hx (hb.trans hB) hPer.1 hWP hWD hS _ 1 he rfl (zin hj hj0 hj1) hd ?_
    intro H1 locs1 hP1 hD1 hS1
    have hcell : (Sum.inl (γ 1, n, .inr (.inl (vp_updL (fun y : Nat => Int64.ofInt (M ((((a - 1).toNat : Nat) : Int) + 1) (y : Int))) (Int32.ofInt j).toNatClampNeg (Int64.ofInt v)))) : va_E) = zcell γ ρ (1, n) (fun y => zu M a j v ((((a - 1).toNat : Nat) : Int) + 1) y) := by
      rw [zcl' hj hj0, hcast]
      show Sum.inl (_, _, Sum.inr (Sum.inl _)) = Sum.inl (_, _, Sum.inr (Sum.inl _))
      congr 5
      funext y
      unfold vp_updL
      by_cases hy : y = j.toNat
      · subst hy
        rw [if_pos rfl, hjc]
        dsimp only
        rw [zu_same]
      · rw [if_neg hy]
        dsimp only
        rw [zu_ne (by omega)]
    have hP2 : va_P D vwCl (zwl γ ρ X.1 (zu M a j v)) H1 := by rw [hw1, ← hcell]; exact hP1
    have hD2 : va_D A (zwl γ ρ X.1 (zu M a j v)) := by rw [hw1, ← hcell]; exact hD1
    exact kk H1 locs1 ls ⟨hP2, hD2, hM1, hWS.put h0⟩ hS1 hL hs.cons.2.cons.2.cons.2 hl
  · cases h

theorem so_bast (hp : P[i]? = some pc) (hq : P[i + 1]? = some (pc + 1)) (hd : decode B pc = .ok (.bastore, 1)) : zSO l D γ τ L xs k B P i zo_bast := by
  intro hB hP F hF st lo M X r M' X' h
  unfold zo_bast at h
  split at h
  · rename_i v j a st
    obtain ⟨⟨hz, hj0, hj1, hv01⟩, h9⟩ := zg_some h
    clear h
    obtain ⟨h0, hK, hle, hcast⟩ := zkd_arr hz (by omega)
    generalize (zkd X a).2 = n at hj1 hK
    refine (hF _ _ _ _ _ _ _ _ _ h9).step _ _ _ _ _ _ ?_
    rintro p e R s m args below meth c A ⟨⟨hx, hb, hml, hown, hts, -⟩, hPer, hA⟩ ρ H locs ls ⟨hWP, hWD, hWM, hWS⟩ hS hL hs hl cells slots Q kk
    have hv := hs.cons.1
    have hj := hs.cons.2.cons.1.gi
    have hjc : ((j.toNat : Nat) : Int) = j := by omega
    rw [zpc_of hP hp]; rw [zpc_of hP hq] at kk
    have he := zwl_at (γ := γ) (ρ := ρ) (M := M) hK
    have hM1 : zMOK X.1 (zu M a j v) := by
      have := hWM.put (q := (a - 1).toNat) (jn := j.toNat) (v := v) (fun kd hk _ => by
        cases hk.symm.trans hK
        exact ⟨fun _ => hv.gi, fun q => (by cases q), fun q => (by cases q)⟩)
      rw [hcast, hjc] at this
      exact this
    have hw1 := zwl_put (γ := γ) (ρ := ρ) hK (zu M a j v) (fun x y hne => zu_ne (by rw [hcast] at hne; exact fun z => hne z.1))
    refine va_zast hx (hb.trans hB) hPer.1 hWP hWD hS _ 2 he rfl (zin hj hj0 hj1) hd ?_
    intro H1 locs1 hP1 hD1 hS1
    have hcell : (Sum.inl (γ 2, n, .inl (upd (fun y : Nat => Int32.ofInt (M ((((a - 1).toNat : Nat) : Int) + 1) (y : Int))) (Int32.ofInt j).toNatClampNeg (vp_nar .boolean (Int32.ofInt v)))) : va_E) = zcell γ ρ (2, n) (fun y => zu M a j v ((((a - 1).toNat : Nat) : Int) + 1) y) := by
      rw [zcl' hj hj0, hcast]
      show Sum.inl (_, _, Sum.inl _) = Sum.inl (_, _, Sum.inl _)
      congr 4
      funext y
      unfold upd
      by_cases hy : y = j.toNat
      · subst hy
        rw [if_pos rfl, hjc]
        dsimp only
        rw [zu_same]
        rcases hv01 with rfl | rfl <;> rfl
      · rw [if_neg hy]
        dsimp only
        rw [zu_ne (by omega)]
    have hP2 : va_P D vwCl (zwl γ ρ X.1 (zu M a j v)) H1 := by rw [hw1, ← hcell]; exact hP1
    have hD2 : va_D A (zwl γ ρ X.1 (zu M a j v)) := by rw [hw1, ← hcell]; exact hD1
    exact kk H1 locs1 ls ⟨hP2, hD2, hM1, hWS.put h0⟩ hS1 hL hs.cons.2.cons.2.cons.2 hl
  · cases h

theorem so_aast3 {ci N : Nat} {T : u_T} (hp : P[i]? = some pc) (hq : P[i + 1]? = some (pc + 1)) (hd : decode B pc = .ok (.aastore, 1)) (hC : zCl ci "CordCart$Cord" T N) : zSO l D γ τ L xs k B P i (zo_aast 3 ci) := by
  intro hB hP F hF st lo M X r M' X' h
  unfold zo_aast at h
  split at h
  · rename_i v j a st
    obtain ⟨⟨hz, hj0, hj1, hkv⟩, h9⟩ := zg_some h
    clear h
    obtain ⟨h0, hK, hle, hcast⟩ := zkd_arr hz (by omega)
    obtain ⟨c1, c2, c3, c4, c5, c6⟩ := hC
    obtain ⟨h0v, hKv, hlev, hcastv⟩ := zkd_some hkv (show 6 + ci < 99 by omega)
    generalize (zkd X a).2 = n at hj1 hK
    refine (hF _ _ _ _ _ _ _ _ _ h9).step _ _ _ _ _ _ ?_
    rintro p e R s m args below meth c A ⟨⟨hx, hb, hml, hown, hts, -⟩, hPer, hA⟩ ρ H locs ls ⟨hWP, hWD, hWM, hWS⟩ hS hL hs hl cells slots Q kk
    have hv := hs.cons.1
    have hj := hs.cons.2.cons.1.gi
    have hjc : ((j.toNat : Nat) : Int) = j := by omega
    rw [zpc_of hP hp]; rw [zpc_of hP hq] at kk
    have he := zwl_at (γ := γ) (ρ := ρ) (M := M) hK
    have hev := zwl_at (γ := γ) (ρ := ρ) (M := M) hKv
    rw [zcell_obj] at hev
    have hM1 : zMOK X.1 (zu M a j v) := by
      have := hWM.put (q := (a - 1).toNat) (jn := j.toNat) (v := v) (fun kd hk _ => by
        cases hk.symm.trans hK
        exact ⟨fun q => (by cases q), fun q => (by cases q), fun _ => ⟨by omega, hv.gr.2⟩⟩)
      rw [hcast, hjc] at this
      exact this
    have hw1 := zwl_put (γ := γ) (ρ := ρ) hK (zu M a j v) (fun x y hne => zu_ne (by rw [hcast] at hne; exact fun z => hne z.1))
    refine va_astq hx (hb.trans hB) hPer.1 hWP hWD hS _ 3 _ ci (r := ("CordCart$Cord", T, N)) he rfl hev c1 (zin hj hj0 hj1) hd ?_
    intro H1 locs1 hP1 hD1 hS1
    have hcell : (Sum.inl (γ 3, n, .inr (.inr (.inr (.inr (va_up (fun y : Nat => if y < n then zrf ρ (M ((((a - 1).toNat : Nat) : Int) + 1) (y : Int)) else none) (Int32.ofInt j).toNatClampNeg (some (ρ (v - 1).toNat))))))) : va_E) = zcell γ ρ (3, n) (fun y => zu M a j v ((((a - 1).toNat : Nat) : Int) + 1) y) := by
      rw [zcl' hj hj0, hcast]
      show Sum.inl (_, _, Sum.inr (Sum.inr (Sum.inr (Sum.inr _)))) = Sum.inl (_, _, Sum.inr (Sum.inr (Sum.inr (Sum.inr _))))
      congr 8
      funext y
      unfold va_up
      by_cases hy : y = j.toNat
      · subst hy
        rw [if_pos rfl]
        dsimp only
        rw [if_pos (by omega), hjc, zu_same]
        unfold zrf
        rw [if_neg (by omega)]
      · rw [if_neg hy]
        dsimp only
        rw [zu_ne (by omega)]
    have hP2 : va_P D vwCl (zwl γ ρ X.1 (zu M a j v)) H1 := by rw [hw1, ← hcell]; exact hP1
    have hD2 : va_D A (zwl γ ρ X.1 (zu M a j v)) := by rw [hw1, ← hcell]; exact hD1
    exact kk H1 locs1 ls ⟨hP2, hD2, hM1, hWS.put h0⟩ hS1 hL hs.cons.2.cons.2.cons.2 hl
  · cases h

theorem so_aast4 {ci N : Nat} {T : u_T} (hp : P[i]? = some pc) (hq : P[i + 1]? = some (pc + 1)) (hd : decode B pc = .ok (.aastore, 1)) (hC : zCl ci "CordCart$Tape" T N) : zSO l D γ τ L xs k B P i (zo_aast 4 ci) := by
  intro hB hP F hF st lo M X r M' X' h
  unfold zo_aast at h
  split at h
  · rename_i v j a st
    obtain ⟨⟨hz, hj0, hj1, hkv⟩, h9⟩ := zg_some h
    clear h
    obtain ⟨h0, hK, hle, hcast⟩ := zkd_arr hz (by omega)
    obtain ⟨c1, c2, c3, c4, c5, c6⟩ := hC
    obtain ⟨h0v, hKv, hlev, hcastv⟩ := zkd_some hkv (show 6 + ci < 99 by omega)
    generalize (zkd X a).2 = n at hj1 hK
    refine (hF _ _ _ _ _ _ _ _ _ h9).step _ _ _ _ _ _ ?_
    rintro p e R s m args below meth c A ⟨⟨hx, hb, hml, hown, hts, -⟩, hPer, hA⟩ ρ H locs ls ⟨hWP, hWD, hWM, hWS⟩ hS hL hs hl cells slots Q kk
    have hv := hs.cons.1
    have hj := hs.cons.2.cons.1.gi
    have hjc : ((j.toNat : Nat) : Int) = j := by omega
    rw [zpc_of hP hp]; rw [zpc_of hP hq] at kk
    have he := zwl_at (γ := γ) (ρ := ρ) (M := M) hK
    have hev := zwl_at (γ := γ) (ρ := ρ) (M := M) hKv
    rw [zcell_obj] at hev
    have hM1 : zMOK X.1 (zu M a j v) := by
      have := hWM.put (q := (a - 1).toNat) (jn := j.toNat) (v := v) (fun kd hk _ => by
        cases hk.symm.trans hK
        exact ⟨fun q => (by cases q), fun q => (by cases q), fun _ => ⟨by omega, hv.gr.2⟩⟩)
      rw [hcast, hjc] at this
      exact this
    have hw1 := zwl_put (γ := γ) (ρ := ρ) hK (zu M a j v) (fun x y hne => zu_ne (by rw [hcast] at hne; exact fun z => hne z.1))
    refine va_astq hx (hb.trans hB) hPer.1 hWP hWD hS _ 4 _ ci (r := ("CordCart$Tape", T, N)) he rfl hev c1 (zin hj hj0 hj1) hd ?_
    intro H1 locs1 hP1 hD1 hS1
    have hcell : (Sum.inl (γ 4, n, .inr (.inr (.inr (.inr (va_up (fun y : Nat => if y < n then zrf ρ (M ((((a - 1).toNat : Nat) : Int) + 1) (y : Int)) else none) (Int32.ofInt j).toNatClampNeg (some (ρ (v - 1).toNat))))))) : va_E) = zcell γ ρ (4, n) (fun y => zu M a j v ((((a - 1).toNat : Nat) : Int) + 1) y) := by
      rw [zcl' hj hj0, hcast]
      show Sum.inl (_, _, Sum.inr (Sum.inr (Sum.inr (Sum.inr _)))) = Sum.inl (_, _, Sum.inr (Sum.inr (Sum.inr (Sum.inr _))))
      congr 8
      funext y
      unfold va_up
      by_cases hy : y = j.toNat
      · subst hy
        rw [if_pos rfl]
        dsimp only
        rw [if_pos (by omega), hjc, zu_same]
        unfold zrf
        rw [if_neg (by omega)]
      · rw [if_neg hy]
        dsimp only
        rw [zu_ne (by omega)]
    have hP2 : va_P D vwCl (zwl γ ρ X.1 (zu M a j v)) H1 := by rw [hw1, ← hcell]; exact hP1
    have hD2 : va_D A (zwl γ ρ X.1 (zu M a j v)) := by rw [hw1, ← hcell]; exact hD1
    exact kk H1 locs1 ls ⟨hP2, hD2, hM1, hWS.put h0⟩ hS1 hL hs.cons.2.cons.2.cons.2 hl
  · cases h

theorem so_alen0 (hp : P[i]? = some pc) (hq : P[i + 1]? = some (pc + 1)) (hd : decode B pc = .ok (.arraylength, 1)) (hK2 : ∀ (X : zX) (a : Int), (zkd X a).1 = 0 → True) : zSO l D γ τ L xs k B P i (zo_alen 0) := by
  intro hB hP F hF st lo M X r M' X' h
  unfold zo_alen at h
  split at h
  · rename_i a st
    obtain ⟨⟨hz, hlen⟩, h9⟩ := zg_some h
    clear h
    obtain ⟨h0, hK, hle, hcast⟩ := zkd_arr hz (by omega)
    generalize (zkd X a).2 = n at hK h9 hlen
    refine (hF _ _ _ _ _ _ _ _ _ h9).step _ _ _ _ _ _ ?_
    rintro p e R s m args below meth c A ⟨⟨hx, hb, hml, hown, hts, -⟩, hPer, hA⟩ ρ H locs ls ⟨hWP, hWD, hWM, hWS⟩ hS hL hs hl cells slots Q kk
    have kk := kk H locs ls ⟨hWP, hWD, hWM, hWS⟩ hS hL (zsOK.mk (.of0 (by omega)) hs.cons.2) hl
    rw [zpc_of hP hp]; rw [zpc_of hP hq] at kk
    have he := zwl_at (γ := γ) (ρ := ρ) (M := M) hK
    exact va_alen hx (hb.trans hB) hPer.1 hWP _ 0 he rfl (v := Int32.ofInt (n : Int)) (by rw [Int32.ofInt_eq_ofNat]) hd kk
  · cases h

theorem so_alen1 (hp : P[i]? = some pc) (hq : P[i + 1]? = some (pc + 1)) (hd : decode B pc = .ok (.arraylength, 1)) (hK2 : ∀ (X : zX) (a : Int), (zkd X a).1 = 1 → True) : zSO l D γ τ L xs k B P i (zo_alen 1) := by
  intro hB hP F hF st lo M X r M' X' h
  unfold zo_alen at h
  split at h
  · rename_i a st
    obtain ⟨⟨hz, hlen⟩, h9⟩ := zg_some h
    clear h
    obtain ⟨h0, hK, hle, hcast⟩ := zkd_arr hz (by omega)
    generalize (zkd X a).2 = n at hK h9 hlen
    refine (hF _ _ _ _ _ _ _ _ _ h9).step _ _ _ _ _ _ ?_
    rintro p e R s m args below meth c A ⟨⟨hx, hb, hml, hown, hts, -⟩, hPer, hA⟩ ρ H locs ls ⟨hWP, hWD, hWM, hWS⟩ hS hL hs hl cells slots Q kk
    have kk := kk H locs ls ⟨hWP, hWD, hWM, hWS⟩ hS hL (zsOK.mk (.of0 (by omega)) hs.cons.2) hl
    rw [zpc_of hP hp]; rw [zpc_of hP hq] at kk
    have he := zwl_at (γ := γ) (ρ := ρ) (M := M) hK
    exact va_alen hx (hb.trans hB) hPer.1 hWP _ 1 he rfl (v := Int32.ofInt (n : Int)) (by rw [Int32.ofInt_eq_ofNat]) hd kk
  · cases h

end SO4
