/-! THE OPERATIONS AGAINST THE INSTRUCTIONS: fields and arrays -/
def zCl (ci : Nat) (C : String) (T : u_T) (N : Nat) : Prop := vwCl[ci]? = some (C, T, N) ∧ (∀ w ∈ u_ws C T N, w ∈ zT) ∧ znf ci = N ∧ (∀ j, j < N → parseFieldDescriptor (T j).2.2.1 = some (zty ci j)) ∧ (∀ a, a < N → ∀ b, b < N → a ≠ b → (T a).2.1 ≠ (T b).2.1) ∧ ci < 13
theorem zcell_obj {γ : Nat → ClassId} {ρ : Nat → Nat} {ci n : Nat} {f : Int → Int} : zcell γ ρ (6 + ci, n) f = .inr (ci, (List.range (znf ci)).map (fun j => zfv ρ (ztag (zty ci j)) (f j))) := by
  rw [Nat.add_comm]
  rfl
theorem zstg_obj {ci n j : Nat} : zstg (6 + ci, n) j = ztag (zty ci j) := by
  rw [Nat.add_comm]
  rfl
theorem zsln_obj {ci n : Nat} : zsln (6 + ci, n) = znf ci := by
  unfold zsln
  rw [if_neg (by simp)]
  simp
theorem zrng_at {α : Type} {N j : Nat} {g : Nat → α} (h : j < N) : ((List.range N).map g)[j]? = some (g j) := by
  rw [List.getElem?_map, List.getElem?_range h]
  rfl
theorem zrng_set {α : Type} {N jn : Nat} {g g' : Nat → α} (h : ∀ j, j ≠ jn → g' j = g j) : ((List.range N).map g).set jn (g' jn) = (List.range N).map g' := by
  apply List.ext_getElem?
  intro i
  by_cases hi : i < N
  · rw [zrng_at hi]
    by_cases hj : i = jn
    · subst hj
      rw [List.getElem?_set_self (by simpa using hi)]
    · rw [List.getElem?_set_ne (Ne.symm hj), zrng_at hi, h _ hj]
  · rw [List.getElem?_eq_none (by simp; omega), List.getElem?_eq_none (by simp; omega)]
theorem zu_same {M : zM} {a b v : Int} : zu M a b v a b = v := by simp [zu]
theorem zu_ne {M : zM} {a b v x y : Int} (h : ¬ (x = a ∧ y = b)) : zu M a b v x y = M x y := by simp [zu, h]
/-- what a kind's place may hold stays right behind a write -/
theorem zMOK.put {K : List (Nat × Nat)} {M : zM} {q jn : Nat} {v : Int} (h : zMOK K M) (hv : ∀ kd, K[q]? = some kd → jn < zsln kd → zmOK K.length (zstg kd jn) v) : zMOK K (zu M ((q : Int) + 1) (jn : Int) v) := by
  intro q' kd hk j hj
  by_cases hq : q' = q ∧ j = jn
  · obtain ⟨rfl, rfl⟩ := hq
    rw [zu_same]
    exact hv kd hk hj
  · rw [zu_ne (by omega)]
    exact h q' kd hk j hj
theorem zSc.put {L : Nat} {xs : Nat → Int32} {M : zM} {r j v : Int} (h : zSc L xs M) (hr : 0 < r) : zSc L xs (zu M r j v) := by
  refine ⟨?_, fun y hy => ?_⟩
  · rw [zu_ne (by omega)]; exact h.1
  · rw [zu_ne (by omega)]; exact h.2 y hy
section SO3
variable {l : Launch} {D : va_G} {γ : Nat → ClassId} {τ : Nat → Nat} {L : Nat} {xs : Nat → Int32} {k i pc : Nat} {B : ByteArray} {P : List Nat}
theorem so_getI {ci jn N idx : Nat} {C own ref : String} {T : u_T} {j : Int} (hp : P[i]? = some pc) (hq : P[i + 1]? = some (pc + 3)) (hd : decode B pc = .ok (.getfield idx, 3)) (ho : zow k = own) (hC : zCl ci C T N) (hj : jn < N ∧ j = (jn : Int) ∧ ref = (T jn).1 ∧ ztag (zty ci jn) = 0) (hw : Cond.fieldLink own idx ref (T jn).2.1 (T jn).2.2.1 ∈ zT) : zSO l D γ τ L xs k B P i (zo_getI ci j) := by
  intro hB hP F hF st lo M X r M' X' h
  unfold zo_getI at h
  split at h
  · rename_i a st
    obtain ⟨hz, h⟩ := zg_some h
    obtain ⟨hj1, rfl, rfl, hj4⟩ := hj
    obtain ⟨c1, c2, c3, c4, c5, c6⟩ := hC
    obtain ⟨h0, hK, hle, hcast⟩ := zkd_some hz (show 6 + ci < 99 by omega)
    refine (hF _ _ _ _ _ _ _ _ _ h).step _ _ _ _ _ _ ?_
    rintro p e R s m args below meth c A ⟨⟨hx, hb, hml, hown, hts, -⟩, hPer, hA⟩ ρ H locs ls ⟨hWP, hWD, hWM, hWS⟩ hS hL hs hl cells slots Q kk
    have hok := hWM _ _ hK jn (by rw [zsln_obj, c3]; exact hj1)
    rw [zstg_obj, hj4, hcast] at hok
    have kk := kk H locs ls ⟨hWP, hWD, hWM, hWS⟩ hS hL (zsOK.mk (.of0 (hok.1 rfl)) hs.cons.2) hl
    rw [zpc_of hP hp]; rw [zpc_of hP hq] at kk
    rw [ho] at hown
    have he := zwl_at (γ := γ) (ρ := ρ) (M := M) hK
    rw [zcell_obj] at he
    exact va_get hx (hb.trans hB) hts c2 hown hPer.1 hWP _ he c1 jn hj1 (hts _ hw) (fun _ z => z) (v := .int (Int32.ofInt (M a jn))) (by rw [zrng_at (by rw [c3]; exact hj1), hj4, hcast]; rfl) hd kk
  · cases h
theorem so_getR {ci jn N idx : Nat} {C own ref : String} {T : u_T} {j : Int} (hp : P[i]? = some pc) (hq : P[i + 1]? = some (pc + 3)) (hd : decode B pc = .ok (.getfield idx, 3)) (ho : zow k = own) (hC : zCl ci C T N) (hj : jn < N ∧ j = (jn : Int) ∧ ref = (T jn).1 ∧ ztag (zty ci jn) = 2) (hw : Cond.fieldLink own idx ref (T jn).2.1 (T jn).2.2.1 ∈ zT) : zSO l D γ τ L xs k B P i (zo_getR ci j) := by
  intro hB hP F hF st lo M X r M' X' h
  unfold zo_getR at h
  split at h
  · rename_i a st
    obtain ⟨⟨hz, hnn⟩, h⟩ := zg_some h
    obtain ⟨hj1, rfl, rfl, hj4⟩ := hj
    obtain ⟨c1, c2, c3, c4, c5, c6⟩ := hC
    obtain ⟨h0, hK, hle, hcast⟩ := zkd_some hz (show 6 + ci < 99 by omega)
    refine (hF _ _ _ _ _ _ _ _ _ h).step _ _ _ _ _ _ ?_
    rintro p e R s m args below meth c A ⟨⟨hx, hb, hml, hown, hts, -⟩, hPer, hA⟩ ρ H locs ls ⟨hWP, hWD, hWM, hWS⟩ hS hL hs hl cells slots Q kk
    have hok := hWM _ _ hK jn (by rw [zsln_obj, c3]; exact hj1)
    rw [zstg_obj, hj4, hcast] at hok
    have kk := kk H locs ls ⟨hWP, hWD, hWM, hWS⟩ hS hL (zsOK.mk (.of2 ⟨hnn, (hok.2.2 rfl).2⟩) hs.cons.2) hl
    rw [zpc_of hP hp]; rw [zpc_of hP hq] at kk
    rw [ho] at hown
    have he := zwl_at (γ := γ) (ρ := ρ) (M := M) hK
    rw [zcell_obj] at he
    refine va_get hx (hb.trans hB) hts c2 hown hPer.1 hWP _ he c1 jn hj1 (hts _ hw) (fun _ z => z) (v := .ref (ρ (M a jn - 1).toNat)) ?_ hd kk
    rw [zrng_at (by rw [c3]; exact hj1), hj4, hcast]
    show some (va_rf (zrf ρ (M a jn))) = _
    unfold zrf
    rw [if_neg (by omega)]
    rfl
  · cases h

theorem so_putI {ci jn N idx : Nat} {C own ref : String} {T : u_T} {j : Int} (hp : P[i]? = some pc) (hq : P[i + 1]? = some (pc + 3)) (hd : decode B pc = .ok (.putfield idx, 3)) (ho : zow k = own) (hC : zCl ci C T N) (hj : jn < N ∧ j = (jn : Int) ∧ ref = (T jn).1 ∧ zty ci jn = .int ∧ (T jn).2.2.2 = false) (hw : Cond.fieldLink own idx ref (T jn).2.1 (T jn).2.2.1 ∈ zT) : zSO l D γ τ L xs k B P i (zo_putI ci j) := by
  intro hB hP F hF st lo M X r M' X' h
  unfold zo_putI at h
  split at h
  · rename_i v a st
    obtain ⟨hz, h⟩ := zg_some h
    obtain ⟨hj1, rfl, rfl, hj4, hj5⟩ := hj
    obtain ⟨c1, c2, c3, c4, c5, c6⟩ := hC
    obtain ⟨h0, hK, hle, hcast⟩ := zkd_some hz (show 6 + ci < 99 by omega)
    refine (hF _ _ _ _ _ _ _ _ _ h).step _ _ _ _ _ _ ?_
    rintro p e R s m args below meth c A ⟨⟨hx, hb, hml, hown, hts, hfr, hlc, hnm, hht⟩, hPer, hA⟩ ρ H locs ls ⟨hWP, hWD, hWM, hWS⟩ hS hL hs hl cells slots Q kk
    have hv := hs.cons.1
    rw [zpc_of hP hp]; rw [zpc_of hP hq] at kk
    rw [ho] at hown
    have he := zwl_at (γ := γ) (ρ := ρ) (M := M) hK
    rw [zcell_obj] at he
    have hM1 : zMOK X.1 (zu M a (jn : Int) v) := by
      have := hWM.put (q := (a - 1).toNat) (jn := jn) (v := v) (fun kd hk _ => by
        cases hk.symm.trans hK
        rw [zstg_obj]
        rw [hj4]
        exact ⟨fun _ => hv.gi, fun q => (by cases q), fun q => (by cases q)⟩)
      rw [hcast] at this
      exact this
    have hw1 := zwl_put (γ := γ) (ρ := ρ) hK (zu M a (jn : Int) v) (fun x y hne => zu_ne (by rw [hcast] at hne; exact fun z => hne z.1))
    rw [zcell_obj] at hw1
    have hset : ((List.range (znf ci)).map (fun j : Nat => zfv ρ (ztag (zty ci j)) (M ((((a - 1).toNat : Nat) : Int) + 1) (j : Int)))).set jn (.int (Int32.ofInt v)) = (List.range (znf ci)).map (fun j : Nat => zfv ρ (ztag (zty ci j)) (zu M a (jn : Int) v ((((a - 1).toNat : Nat) : Int) + 1) (j : Int))) := by
      rw [← zrng_set (g := fun j : Nat => zfv ρ (ztag (zty ci j)) (M ((((a - 1).toNat : Nat) : Int) + 1) (j : Int))) (g' := fun j : Nat => zfv ρ (ztag (zty ci j)) (zu M a (jn : Int) v ((((a - 1).toNat : Nat) : Int) + 1) (j : Int))) (jn := jn) (fun j hne => by
        show zfv _ _ _ = zfv _ _ _
        rw [zu_ne (by omega)])]
      congr 1
      show _ = zfv _ _ _
      rw [hcast, zu_same]
      rw [hj4]
      rfl
    refine va_put hx (hb.trans hB) hts c2 (fun j => zty ci j) c4 c5 hown hPer.1 hWP hWD hS _ he c1 jn hj1 (hts _ hw) (fun _ z => z) hj5 (ty := zty ci jn) (v := .int (Int32.ofInt v)) (c4 jn hj1) (by rw [hj4]; rfl) (by rw [hj4]; rfl) (by simp [c3, hj1]) hd ?_
    intro H1 locs1 hP1 hD1 hS1
    rw [hset, ← hw1] at hP1 hD1
    exact kk H1 locs1 ls ⟨hP1, hD1, hM1, hWS.put h0⟩ hS1 hL hs.cons.2.cons.2 hl
  · cases h

theorem so_putZ {ci jn N idx : Nat} {C own ref : String} {T : u_T} {j : Int} (hp : P[i]? = some pc) (hq : P[i + 1]? = some (pc + 3)) (hd : decode B pc = .ok (.putfield idx, 3)) (ho : zow k = own) (hC : zCl ci C T N) (hj : jn < N ∧ j = (jn : Int) ∧ ref = (T jn).1 ∧ zty ci jn = .boolean ∧ (T jn).2.2.2 = false) (hw : Cond.fieldLink own idx ref (T jn).2.1 (T jn).2.2.1 ∈ zT) : zSO l D γ τ L xs k B P i (zo_putZ ci j) := by
  intro hB hP F hF st lo M X r M' X' h
  unfold zo_putZ at h
  split at h
  · rename_i v a st
    obtain ⟨⟨hz, hv01⟩, h⟩ := zg_some h
    obtain ⟨hj1, rfl, rfl, hj4, hj5⟩ := hj
    obtain ⟨c1, c2, c3, c4, c5, c6⟩ := hC
    obtain ⟨h0, hK, hle, hcast⟩ := zkd_some hz (show 6 + ci < 99 by omega)
    refine (hF _ _ _ _ _ _ _ _ _ h).step _ _ _ _ _ _ ?_
    rintro p e R s m args below meth c A ⟨⟨hx, hb, hml, hown, hts, hfr, hlc, hnm, hht⟩, hPer, hA⟩ ρ H locs ls ⟨hWP, hWD, hWM, hWS⟩ hS hL hs hl cells slots Q kk
    have hv := hs.cons.1
    rw [zpc_of hP hp]; rw [zpc_of hP hq] at kk
    rw [ho] at hown
    have he := zwl_at (γ := γ) (ρ := ρ) (M := M) hK
    rw [zcell_obj] at he
    have hM1 : zMOK X.1 (zu M a (jn : Int) v) := by
      have := hWM.put (q := (a - 1).toNat) (jn := jn) (v := v) (fun kd hk _ => by
        cases hk.symm.trans hK
        rw [zstg_obj]
        rw [hj4]
        exact ⟨fun _ => hv.gi, fun q => (by cases q), fun q => (by cases q)⟩)
      rw [hcast] at this
      exact this
    have hw1 := zwl_put (γ := γ) (ρ := ρ) hK (zu M a (jn : Int) v) (fun x y hne => zu_ne (by rw [hcast] at hne; exact fun z => hne z.1))
    rw [zcell_obj] at hw1
    have hset : ((List.range (znf ci)).map (fun j : Nat => zfv ρ (ztag (zty ci j)) (M ((((a - 1).toNat : Nat) : Int) + 1) (j : Int)))).set jn (.int (Int32.ofInt v)) = (List.range (znf ci)).map (fun j : Nat => zfv ρ (ztag (zty ci j)) (zu M a (jn : Int) v ((((a - 1).toNat : Nat) : Int) + 1) (j : Int))) := by
      rw [← zrng_set (g := fun j : Nat => zfv ρ (ztag (zty ci j)) (M ((((a - 1).toNat : Nat) : Int) + 1) (j : Int))) (g' := fun j : Nat => zfv ρ (ztag (zty ci j)) (zu M a (jn : Int) v ((((a - 1).toNat : Nat) : Int) + 1) (j : Int))) (jn := jn) (fun j hne => by
        show zfv _ _ _ = zfv _ _ _
        rw [zu_ne (by omega)])]
      congr 1
      show _ = zfv _ _ _
      rw [hcast, zu_same]
      rw [hj4]
      rfl
    refine va_put hx (hb.trans hB) hts c2 (fun j => zty ci j) c4 c5 hown hPer.1 hWP hWD hS _ he c1 jn hj1 (hts _ hw) (fun _ z => z) hj5 (ty := zty ci jn) (v := .int (Int32.ofInt v)) (c4 jn hj1) (by rw [hj4]; rcases hv01 with rfl | rfl <;> rfl) (by rw [hj4]; rcases hv01 with rfl | rfl <;> rfl) (by simp [c3, hj1]) hd ?_
    intro H1 locs1 hP1 hD1 hS1
    rw [hset, ← hw1] at hP1 hD1
    exact kk H1 locs1 ls ⟨hP1, hD1, hM1, hWS.put h0⟩ hS1 hL hs.cons.2.cons.2 hl
  · cases h

theorem so_putR {ci jn N idx : Nat} {C own ref : String} {T : u_T} {j : Int} (hp : P[i]? = some pc) (hq : P[i + 1]? = some (pc + 3)) (hd : decode B pc = .ok (.putfield idx, 3)) (ho : zow k = own) (hC : zCl ci C T N) (hj : jn < N ∧ j = (jn : Int) ∧ ref = (T jn).1 ∧ ((∃ x, zty ci jn = .object x) ∨ ∃ x, zty ci jn = .array x) ∧ (T jn).2.2.2 = true ∧ (zy k).name = "<init>" ∧ (T jn).1 = own) (hw : Cond.fieldLink own idx ref (T jn).2.1 (T jn).2.2.1 ∈ zT) : zSO l D γ τ L xs k B P i (zo_putR ci j) := by
  intro hB hP F hF st lo M X r M' X' h
  unfold zo_putR at h
  split at h
  · rename_i v a st
    obtain ⟨hz, h⟩ := zg_some h
    obtain ⟨hj1, rfl, rfl, hj4, hj5, hj6, hj7⟩ := hj
    obtain ⟨c1, c2, c3, c4, c5, c6⟩ := hC
    obtain ⟨h0, hK, hle, hcast⟩ := zkd_some hz (show 6 + ci < 99 by omega)
    refine (hF _ _ _ _ _ _ _ _ _ h).step _ _ _ _ _ _ ?_
    rintro p e R s m args below meth c A ⟨⟨hx, hb, hml, hown, hts, hfr, hlc, hnm, hht⟩, hPer, hA⟩ ρ H locs ls ⟨hWP, hWD, hWM, hWS⟩ hS hL hs hl cells slots Q kk
    have hv := hs.cons.1
    rw [zpc_of hP hp]; rw [zpc_of hP hq] at kk
    rw [ho] at hown
    have he := zwl_at (γ := γ) (ρ := ρ) (M := M) hK
    rw [zcell_obj] at he
    have hM1 : zMOK X.1 (zu M a (jn : Int) v) := by
      have := hWM.put (q := (a - 1).toNat) (jn := jn) (v := v) (fun kd hk _ => by
        cases hk.symm.trans hK
        rw [zstg_obj]
        have hr := hv.gr
        rcases hj4 with ⟨x, e⟩ | ⟨x, e⟩ <;> (rw [e]; exact ⟨fun q => (by cases q), fun q => (by cases q), fun _ => ⟨by omega, hr.2⟩⟩))
      rw [hcast] at this
      exact this
    have hw1 := zwl_put (γ := γ) (ρ := ρ) hK (zu M a (jn : Int) v) (fun x y hne => zu_ne (by rw [hcast] at hne; exact fun z => hne z.1))
    rw [zcell_obj] at hw1
    have hset : ((List.range (znf ci)).map (fun j : Nat => zfv ρ (ztag (zty ci j)) (M ((((a - 1).toNat : Nat) : Int) + 1) (j : Int)))).set jn (.ref (ρ (v - 1).toNat)) = (List.range (znf ci)).map (fun j : Nat => zfv ρ (ztag (zty ci j)) (zu M a (jn : Int) v ((((a - 1).toNat : Nat) : Int) + 1) (j : Int))) := by
      rw [← zrng_set (g := fun j : Nat => zfv ρ (ztag (zty ci j)) (M ((((a - 1).toNat : Nat) : Int) + 1) (j : Int))) (g' := fun j : Nat => zfv ρ (ztag (zty ci j)) (zu M a (jn : Int) v ((((a - 1).toNat : Nat) : Int) + 1) (j : Int))) (jn := jn) (fun j hne => by
        show zfv _ _ _ = zfv _ _ _
        rw [zu_ne (by omega)])]
      congr 1
      show _ = zfv _ _ _
      rw [hcast, zu_same]
      have hr := hv.gr
      have e3 : va_rf (zrf ρ v) = .ref (ρ (v - 1).toNat) := by
        unfold zrf
        rw [if_neg (by omega)]
        rfl
      rcases hj4 with ⟨x, e⟩ | ⟨x, e⟩ <;> (rw [e]; exact e3.symm)
    refine va_putF hx (hb.trans hB) hts c2 (fun j => zty ci j) c4 c5 hown hPer.1 hWP hWD hS _ he c1 jn hj1 (hts _ hw) (fun _ z => z) hj5 (hnm hj6) hj7 (ty := zty ci jn) (v := .ref (ρ (v - 1).toNat)) (c4 jn hj1) (by rcases hj4 with ⟨x, e⟩ | ⟨x, e⟩ <;> (rw [e]; rfl)) (by rcases hj4 with ⟨x, e⟩ | ⟨x, e⟩ <;> (rw [e]; rfl)) (by simp [c3, hj1]) hd ?_
    intro H1 locs1 hP1 hD1 hS1
    rw [hset, ← hw1] at hP1 hD1
    exact kk H1 locs1 ls ⟨hP1, hD1, hM1, hWS.put h0⟩ hS1 hL hs.cons.2.cons.2 hl
  · cases h

theorem so_gets {a idx t N : Nat} {own ref n : String} {f : List Int} (hp : P[i]? = some pc) (hq : P[i + 1]? = some (pc + 3)) (hd : decode B pc = .ok (.getstatic idx, 3)) (ho : zow k = own) (hr : ref = "CordCart")
    (ht : ∀ (A : Nat → Prop) (U : State) (H : Heap), zPer D γ τ L xs A U H → zTab n (τ a) N f A U H) (hw : Cond.fieldLink own idx ref n "[I" ∈ zT) : zSO l D γ τ L xs k B P i (zo_gets a) := by
  intro hB hP F hF st lo M X r M' X' h
  refine (hF _ _ _ _ _ _ _ _ _ h).step _ _ _ _ _ _ ?_
  rintro p e R s m args below meth c A ⟨⟨hx, hb, hml, hown, hts, -⟩, hPer, hA⟩ ρ H locs ls hW hS hL hs hl cells slots Q kk
  have kk := kk H locs ls hW hS hL (zsOK.mk .of3 hs) hl
  rw [zpc_of hP hp]; rw [zpc_of hP hq] at kk
  rw [ho] at hown
  subst hr
  exact va_gets hx (hb.trans hB) (ht A s s.heap hPer).1 hS hown (hts _ hw) (fun _ z => z) hd kk
theorem so_getsN {a idx t N : Nat} {own n host : String} {f : List Int} (hp : P[i]? = some pc) (hq : P[i + 1]? = some (pc + 3)) (hd : decode B pc = .ok (.getstatic idx, 3)) (ho : zow k = own)
    (ht : ∀ (A : Nat → Prop) (U : State) (H : Heap), zPer D γ τ L xs A U H → zTab n (τ a) N f A U H) (hw : Cond.fieldLinkNest own idx "CordCart" n "[I" host ∈ zNw) : zSO l D γ τ L xs k B P i (zo_gets a) := by
  intro hB hP F hF st lo M X r M' X' h
  refine (hF _ _ _ _ _ _ _ _ _ h).step _ _ _ _ _ _ ?_
  rintro p e R s m args below meth c A ⟨⟨hx, hb, hml, hown, hts, -⟩, hPer, hA⟩ ρ H locs ls hW hS hL hs hl cells slots Q kk
  have kk := kk H locs ls hW hS hL (zsOK.mk .of3 hs) hl
  rw [zpc_of hP hp]; rw [zpc_of hP hq] at kk
  rw [ho] at hown
  exact va_getsN hx (hb.trans hB) (ht A s s.heap hPer).1 hS hown (hPer.2.2.2.1 _ hw) (fun _ z => z) hd kk
theorem so_sald {a N : Nat} {n : String} {f : List Int} (hp : P[i]? = some pc) (hq : P[i + 1]? = some (pc + 1)) (hd : decode B pc = .ok (.iaload, 1))
    (ht : ∀ (A : Nat → Prop) (U : State) (H : Heap), zPer D γ τ L xs A U H → zTab n (τ a) N f A U H) (hsl : ∀ M, zsl M a = (N : Int)) (hsv : ∀ M j, zsv M a j = f.getD j.toNat 0) (hN : ∀ j : Nat, j < N → zI (f.getD j 0)) : zSO l D γ τ L xs k B P i (zo_sald a) := by
  intro hB hP F hF st lo M X r M' X' h
  unfold zo_sald at h
  split at h
  · rename_i j b st
    obtain ⟨⟨hba, hj0, hj1⟩, h9⟩ := zg_some h
    clear h
    subst hba
    rw [hsl] at hj1
    rw [hsv] at h9
    have hzi := hN j.toNat (by omega)
    refine (hF _ _ _ _ _ _ _ _ _ h9).step _ _ _ _ _ _ ?_
    rintro p e R s m args below meth c A ⟨⟨hx, hb, hml, hown, hts, -⟩, hPer, hA⟩ ρ H locs ls hW hS hL hs hl cells slots Q kk
    have kk := kk H locs ls hW hS hL (zsOK.mk (.of0 hzi) hs.cons.2.cons.2) hl
    rw [zpc_of hP hp]; rw [zpc_of hP hq] at kk
    have hj := hs.cons.1.gi
    exact va_ti (t := τ a) (N := N) hx (hb.trans hB) (ht A s s.heap hPer).2 hS (zin hj hj0 hj1) (by rw [zcl' hj hj0]; rfl) hd kk
  · cases h
theorem so_scald (hp : P[i]? = some pc) (hq : P[i + 1]? = some (pc + 1)) (hd : decode B pc = .ok (.iaload, 1)) : zSO l D γ τ L xs k B P i (zo_sald 4) := by
  intro hB hP F hF st lo M X r M' X' h
  unfold zo_sald at h
  split at h
  · rename_i j b st
    obtain ⟨⟨hba, hj0, hj1⟩, h9⟩ := zg_some h
    clear h
    subst hba
    refine (hF _ _ _ _ _ _ _ _ _ h9).step _ _ _ _ _ _ ?_
    rintro p e R s m args below meth c A ⟨⟨hx, hb, hml, hown, hts, -⟩, hPer, hA⟩ ρ H locs ls hW hS hL hs hl cells slots Q kk
    have hj := hs.cons.1.gi
    have h1 : j < (L : Int) := by
      have := hW.2.2.2.1
      show j < (L : Int)
      rw [← this]
      exact hj1
    have h2 : zsv M 4 j = (xs j.toNat).toInt := by
      have := hW.2.2.2.2 j.toNat (by omega)
      show M (-5) j = _
      rw [← this]
      congr 1
      omega
    have kk := kk H locs ls hW hS hL (zsOK.mk (.of0 (by rw [h2]; exact z32rng _)) hs.cons.2.cons.2) hl
    rw [zpc_of hP hp]; rw [zpc_of hP hq] at kk
    refine va_ti (t := τ 4) (N := L) hx (hb.trans hB) hPer.2.2.1.1 hS (zin hj hj0 h1) (v := zcv τ ρ (0, zsv M 4 j)) ?_ hd kk
    rw [zcl' hj hj0]
    show _ = Value.int (Int32.ofInt (zsv M 4 j))
    rw [h2, z32o]
  · cases h
theorem so_slen (hp : P[i]? = some pc) (hq : P[i + 1]? = some (pc + 1)) (hd : decode B pc = .ok (.arraylength, 1)) : zSO l D γ τ L xs k B P i zo_slen := by
  intro hB hP F hF st lo M X r M' X' h
  unfold zo_slen at h
  split at h
  · rename_i b st
    obtain ⟨rfl, h⟩ := zg_some h
    refine (hF _ _ _ _ _ _ _ _ _ h).step _ _ _ _ _ _ ?_
    rintro p e R s m args below meth c A ⟨⟨hx, hb, hml, hown, hts, -⟩, hPer, hA⟩ ρ H locs ls hW hS hL hs hl cells slots Q kk
    have h2 : zsl M 4 = (L : Int) := hW.2.2.2.1
    have h3 := hPer.2.2.1.2
    have kk := kk H locs ls hW hS hL (zsOK.mk (.of0 (by rw [h2]; omega)) hs.cons.2) hl
    rw [zpc_of hP hp]; rw [zpc_of hP hq] at kk
    refine va_tlen (t := τ 4) (N := L) hx (hb.trans hB) hPer.2.2.1.1 hS (v := Int32.ofInt (zsl M 4)) ?_ hd kk
    rw [h2, Int32.ofInt_eq_ofNat]
  · cases h

end SO3
