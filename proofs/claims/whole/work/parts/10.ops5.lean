/-! THE OPERATIONS AGAINST THE INSTRUCTIONS: what is made, copied -/
theorem zcv_ext {τ ρ ρ1 : Nat → Nat} {n : Nat} {v : zV} (h : zVOK n v) (hr : ∀ q, q < n → ρ1 q = ρ q) : zcv τ ρ1 v = zcv τ ρ v := by
  obtain ⟨t, x⟩ := v
  match t, h with
  | 0, _ => rfl
  | 1, _ => rfl
  | 2, h =>
    have := h.gr
    show Value.ref _ = Value.ref _
    rw [hr _ (by omega)]
  | 3, _ => rfl
  | t + 4, _ => rfl
theorem zst_ext {τ ρ ρ1 : Nat → Nat} {n : Nat} {st : List zV} (h : zsOK n st) (hr : ∀ q, q < n → ρ1 q = ρ q) : st.map (zcv τ ρ1) = st.map (zcv τ ρ) := List.map_congr_left fun v hv => zcv_ext (h v hv) hr
theorem zlvl_ext {τ ρ ρ1 : Nat → Nat} {n : Nat} (hr : ∀ q, q < n → ρ1 q = ρ q) : ∀ {lo : List zV} {i : Nat}, zsOK n lo → zlvl τ ρ1 i lo = zlvl τ ρ i lo
  | [], i, _ => rfl
  | v :: vs, i, h => by
    unfold zlvl
    rw [zlvl_ext hr h.cons.2, zcv_ext h.cons.1 hr]
theorem zrf_ext {ρ ρ1 : Nat → Nat} {n : Nat} {x : Int} (h : 0 ≤ x ∧ x ≤ (n : Int)) (hr : ∀ q, q < n → ρ1 q = ρ q) : zrf ρ1 x = zrf ρ x := by
  unfold zrf
  split
  · rfl
  · rw [hr _ (by omega)]
theorem zcell_ext {γ : Nat → ClassId} {ρ ρ1 : Nat → Nat} {n : Nat} {kd : Nat × Nat} {f g : Int → Int} (hf : ∀ j : Nat, j < zsln kd → zmOK n (zstg kd j) (f j)) (hr : ∀ q, q < n → ρ1 q = ρ q) (hg : ∀ y, g y = f y) : zcell γ ρ1 kd g = zcell γ ρ kd f := by
  have e : g = f := funext hg
  subst e
  obtain ⟨t, N⟩ := kd
  have hq : ∀ t', 3 ≤ t' → t' < 6 → t = t' → (fun j : Nat => if j < N then zrf ρ1 (g j) else none) = (fun j : Nat => if j < N then zrf ρ (g j) else none) := by
    intro t' h3 h6 ht
    subst ht
    funext j
    split
    · rename_i hj
      have h1 := hf j (by unfold zsln; rw [if_pos h6]; exact hj)
      have h2 : zstg (t, N) j = 2 := by
        rcases (by omega : t = 3 ∨ t = 4 ∨ t = 5) with rfl | rfl | rfl <;> rfl
      rw [h2] at h1
      exact zrf_ext (h1.2.2 rfl) hr
    · rfl
  match t, hf, hq with
  | 0, _, _ => rfl
  | 1, _, _ => rfl
  | 2, _, _ => rfl
  | 3, _, hq => unfold zcell; simp only; rw [hq 3 (by decide) (by decide) rfl]
  | 4, _, hq => unfold zcell; simp only; rw [hq 4 (by decide) (by decide) rfl]
  | 5, _, hq => unfold zcell; simp only; rw [hq 5 (by decide) (by decide) rfl]
  | t + 6, hf, _ =>
    show Sum.inr (t, _) = Sum.inr (t, _)
    congr 2
    apply List.map_congr_left
    intro j hj
    have hj := List.mem_range.mp hj
    have h1 := hf j (by unfold zsln; rw [if_neg (by simp)]; simpa using hj)
    have h1 : zmOK n (ztag (zty t j)) (g j) := h1
    generalize ztag (zty t j) = tg at h1
    match tg, h1 with
    | 0, _ => rfl
    | 1, _ => rfl
    | 2, h1 => show va_rf _ = va_rf _; rw [zrf_ext (h1.2.2 rfl) hr]
    | _ + 3, _ => rfl
/-- the world behind what was made -/
theorem zwl_ext {γ : Nat → ClassId} {ρ ρ1 : Nat → Nat} {K T : List (Nat × Nat)} {M M1 : zM} (hM : zMOK K M) (hr : ∀ q, q < K.length → ρ1 q = ρ q) (hM1 : ∀ (x y : Int), 1 ≤ x → x ≤ (K.length : Int) → M1 x y = M x y) :
    zwl γ ρ1 (K ++ T) M1 = zwl γ ρ K M ++ (List.range T.length).map (fun t => (ρ1 (K.length + t), zcell γ ρ1 (T.getD t (99, 0)) (fun j => M1 (((K.length + t : Nat) : Int) + 1) j))) := by
  apply List.ext_getElem?
  intro i
  by_cases hi : i < K.length
  · obtain ⟨kd, hk⟩ : ∃ kd, K[i]? = some kd := ⟨K[i], List.getElem?_eq_getElem hi⟩
    rw [List.getElem?_append_left (by rw [zwl_len]; exact hi), zwl_at hk, zwl_at (kd := kd) (by rw [List.getElem?_append_left hi]; exact hk), hr i hi]
    congr 2
    exact zcell_ext (n := K.length) (fun j hj => hM i kd hk j hj) hr (fun y => hM1 _ _ (by omega) (by omega))
  · by_cases hi2 : i < K.length + T.length
    · obtain ⟨kd, hk⟩ : ∃ kd, T[i - K.length]? = some kd := ⟨T[i - K.length], List.getElem?_eq_getElem (by omega)⟩
      rw [List.getElem?_append_right (by rw [zwl_len]; omega), zwl_len, zrng_at (by omega), zwl_at (kd := kd) (by rw [List.getElem?_append_right (by omega)]; exact hk)]
      rw [List.getD_eq_getElem?_getD, hk]
      have e : K.length + (i - K.length) = i := by omega
      rw [e]
      rfl
    · rw [List.getElem?_eq_none (by rw [zwl_len, List.length_append]; omega), List.getElem?_eq_none (by rw [List.length_append, zwl_len, List.length_map, List.length_range]; omega)]
theorem zmOK.mono {n n' t : Nat} {x : Int} (h : zmOK n t x) (hn : n ≤ n') : zmOK n' t x := ⟨h.1, h.2.1, fun q => ⟨(h.2.2 q).1, by have := (h.2.2 q).2; omega⟩⟩
theorem zVOK.mono {n n' : Nat} {v : zV} (h : zVOK n v) (hn : n ≤ n') : zVOK n' v := ⟨h.1, h.2.1, fun q => ⟨(h.2.2.1 q).1, by have := (h.2.2.1 q).2; omega⟩, h.2.2.2⟩
theorem zsOK.mono {n n' : Nat} {st : List zV} (h : zsOK n st) (hn : n ≤ n') : zsOK n' st := fun v hv => (h v hv).mono hn
theorem zMOK.app {K T : List (Nat × Nat)} {M M1 : zM} (hM : zMOK K M) (hM1 : ∀ (x y : Int), 1 ≤ x → x ≤ (K.length : Int) → M1 x y = M x y) (hT : ∀ (t : Nat) (kd : Nat × Nat), T[t]? = some kd → ∀ j : Nat, j < zsln kd → zmOK (K.length + T.length) (zstg kd j) (M1 (((K.length + t : Nat) : Int) + 1) j)) : zMOK (K ++ T) M1 := by
  intro q kd hk j hj
  rw [List.length_append]
  by_cases hq : q < K.length
  · rw [List.getElem?_append_left hq] at hk
    rw [hM1 _ _ (by omega) (by omega)]
    exact (hM q kd hk j hj).mono (by omega)
  · rw [List.getElem?_append_right (by omega)] at hk
    have := hT _ kd hk j hj
    rw [show K.length + (q - K.length) = q by omega] at this
    exact this
section SO5
variable {l : Launch} {D : va_G} {γ : Nat → ClassId} {τ : Nat → Nat} {L : Nat} {xs : Nat → Int32} {k i pc : Nat} {B : ByteArray} {P : List Nat}
theorem zGoal.alloc {i1 : Nat} {st st1 lo : List zV} {M M1 M' : zM} {X X1 X' : zX} {r : zV} {T : List (Nat × Nat)} {dc ds : Nat} (g : zGoal l D γ τ L xs k i1 st1 lo M1 X1 r M' X') (hX : X1.1 = X.1 ++ T) (hc : X1.2.1 + dc = X.2.1) (hd : X1.2.2 + ds = X.2.2)
    (hok : zsOK X.1.length st → zsOK X1.1.length st1)
    (h : ∀ (p : Program) (e : Env) (R : Room) (s : State) (m : MethodId) (args : Array Value) (below : List Frame) (meth : Method) (c : Code) (A : Nat → Prop), zCtx D γ τ L xs k p R s m args meth c A →
      ∀ (ρ : Nat → Nat) (H : Heap) (locs : List Loc) (ls : Array Slot), zWd D γ L xs A ρ X.1 M H → va_S A s.heap H locs → zLc τ ρ (zml k) lo ls → zsOK X.1.length st →
      ∀ (cells slots : Nat) (Q : State → Prop), cells + dc ≤ R.cells → slots + ds ≤ R.slots →
      (∀ (ρ1 : Nat → Nat) (H1 : Heap), (∀ q, q < X.1.length → ρ1 q = ρ q) → zWd D γ L xs A ρ1 X1.1 M1 H1 → va_S A s.heap H1 locs → W p l e R s m args below meth c H1 locs (cells + dc) (slots + ds) Q (F0 m (zpc k i1) ls (st1.map (zcv τ ρ1)))) →
      W p l e R s m args below meth c H locs cells slots Q (F0 m (zpc k i) ls (st.map (zcv τ ρ)))) : zGoal l D γ τ L xs k i st lo M X r M' X' := by
  obtain ⟨⟨t, g1⟩, g2, g3, g4⟩ := g
  have hlen : X.1.length ≤ X1.1.length := by rw [hX, List.length_append]; omega
  refine ⟨⟨T ++ t, by rw [g1, hX, List.append_assoc]⟩, by omega, by omega, ?_⟩
  intro p e R s m args below meth c A hC ρ H locs ls hW hS hL hs hl cells slots Q hcc hss hend
  refine h p e R s m args below meth c A hC ρ H locs ls hW hS hL hs cells slots Q (by omega) (by omega) fun ρ1 H1 hr hW1 hS1 => ?_
  refine g4 p e R s m args below meth c A hC ρ1 H1 locs ls hW1 hS1 ⟨hL.1, by rw [zlvl_ext hr hl]; exact hL.2⟩ (hok hs) (hl.mono hlen) _ _ Q (by omega) (by omega) fun i' ρ' H' locs' ls' cs ss he hr' hW' hS' hl' hcs => ?_
  refine hend i' ρ' H' locs' ls' cs ss he (fun q hq => (hr' q (by omega)).trans (hr q hq)) hW' hS' hl' ?_
  split at hcs
  · rename_i h8
    rw [if_pos h8]
    omega
  · rename_i h8
    rw [if_neg h8]
    omega
def zup (ρ : Nat → Nat) (n q : Nat) : Nat → Nat := fun x => if x = n then q else ρ x
theorem zSc.clr {M : zM} {a : Int} (h : zSc L xs M) (ha : 0 < a) : zSc L xs (zclr M a) := by
  refine ⟨?_, fun y hy => ?_⟩
  · show (if _ then _ else _) = _
    rw [if_neg (by omega)]; exact h.1
  · show (if _ then _ else _) = _
    rw [if_neg (by omega)]; exact h.2 y hy
/-- one new cell -/
theorem zWd_new {A : Nat → Prop} {ρ : Nat → Nat} {K : List (Nat × Nat)} {M : zM} {H H1 : Heap} {kd : Nat × Nat} {q : Nat} (hW : zWd D γ L xs A ρ K M H) (hP : va_P D vwCl (zwl γ ρ K M ++ [(q, zcell γ (zup ρ K.length q) kd (fun _ => 0))]) H1) (hD : va_D A (zwl γ ρ K M ++ [(q, zcell γ (zup ρ K.length q) kd (fun _ => 0))])) :
    zWd D γ L xs A (zup ρ K.length q) (K ++ [kd]) (zclr M ((K.length : Int) + 1)) H1 := by
  have hr : ∀ x, x < K.length → zup ρ K.length q x = ρ x := fun x hx => by unfold zup; rw [if_neg (by omega)]
  have hM1 : ∀ (x y : Int), 1 ≤ x → x ≤ (K.length : Int) → zclr M ((K.length : Int) + 1) x y = M x y := fun x y h1 h2 => by unfold zclr; rw [if_neg (by omega)]
  have e : zwl γ (zup ρ K.length q) (K ++ [kd]) (zclr M ((K.length : Int) + 1)) = zwl γ ρ K M ++ [(q, zcell γ (zup ρ K.length q) kd (fun _ => 0))] := by
    rw [zwl_ext hW.2.2.1 hr hM1]
    congr 1
    show [(zup ρ K.length q (K.length + 0), _)] = _
    congr 1
    have e1 : zup ρ K.length q (K.length + 0) = q := by unfold zup; rw [Nat.add_zero, if_pos rfl]
    rw [e1]
    congr 1
    show zcell γ _ kd _ = _
    congr 1
    funext j
    unfold zclr
    rw [if_pos (by simp)]
  refine ⟨by rw [e]; exact hP, by rw [e]; exact hD, hW.2.2.1.app hM1 ?_, hW.2.2.2.clr (by omega)⟩
  intro t kd' ht j hj
  have : t = 0 := by
    have := (List.getElem?_eq_some_iff.mp ht).1
    simpa using this
  subst this
  have e0 : zclr M ((K.length : Int) + 1) (((K.length + 0 : Nat) : Int) + 1) j = 0 := by
    show (if _ then _ else _) = _
    rw [if_pos (by omega)]
  rw [e0]
  exact ⟨fun _ => by decide, fun _ => by decide, fun _ => by omega⟩
theorem so_new {ci N nf idx : Nat} {C own : String} {T : u_T} (hp : P[i]? = some pc) (hq : P[i + 1]? = some (pc + 3)) (hd : decode B pc = .ok (.new idx, 3)) (ho : zow k = own) (hC : zCl ci C T N) (hN : nf = N)
    (hw : Cond.classLink own idx C ∈ zT ∧ Cond.instantiable C N ∈ zT ∧ Cond.initialized C ∈ zT) (hdef : ∀ j, j < N → defaultValue (zty ci j) = zfv τ (ztag (zty ci j)) 0) : zSO l D γ τ L xs k B P i (zo_new ci nf) := by
  intro hB hP F hF st lo M X r M' X' h
  unfold zo_new at h
  obtain ⟨⟨hc1, hc2⟩, h9⟩ := zg_some h
  clear h
  subst hN
  obtain ⟨c1, c2, c3, c4, c5, c6⟩ := hC
  refine (hF _ _ _ _ _ _ _ _ _ h9).alloc (T := [(6 + ci, 0)]) (dc := 1) (ds := nf) rfl (by show X.2.1 - 1 + 1 = _; omega) (by show X.2.2 - nf + nf = _; omega) ?_ ?_
  · intro h
    show zsOK (X.1 ++ [(6 + ci, 0)]).length _
    rw [List.length_append]
    exact zsOK.mk (.of2 ⟨by omega, by show _ ≤ ((X.1.length + 1 : Nat) : Int); omega⟩) (h.mono (by omega))
  rintro p e R s m args below meth c A ⟨⟨hx, hb, hml, hown, hts, -⟩, hPer, hA⟩ ρ H locs ls hW hS hL hs cells slots Q hcc hss kk
  rw [zpc_of hP hp]; rw [zpc_of hP hq] at kk
  rw [ho] at hown
  refine va_new (fs := (List.range nf).map (fun j => zfv τ (ztag (zty ci j)) 0)) hx (hb.trans hB) hts c2 (fun j => zty ci j) c4 hown (hts _ hw.1) (hts _ hw.2.1) (hts _ hw.2.2) hPer.1 hW.1 hW.2.1 hS hA c1 (fun j hj => ?_) hcc hss hd (fun q H1 hP1 hD1 hS1 => ?_)
  · unfold vp_V
    rw [List.getD_eq_getElem?_getD, zrng_at hj]
    exact hdef j hj
  · have e1 : (Sum.inr (ci, (List.range nf).map (fun j => zfv τ (ztag (zty ci j)) 0)) : va_E) = zcell γ (zup ρ X.1.length q) (6 + ci, 0) (fun _ => 0) := by
      rw [zcell_obj, c3]
      congr 2
    rw [e1] at hP1 hD1
    have hk := kk (zup ρ X.1.length q) H1 (fun x hx => by unfold zup; rw [if_neg (by omega)]) (zWd_new hW hP1 hD1) hS1
    have hr : ∀ x, x < X.1.length → zup ρ X.1.length q x = ρ x := fun x hx => by unfold zup; rw [if_neg (by omega)]
    rw [List.map_cons, zst_ext hs hr] at hk
    have e2 : zcv τ (zup ρ X.1.length q) (2, (X.1.length : Int) + 1) = .ref q := by
      show Value.ref (zup ρ X.1.length q ((X.1.length : Int) + 1 - 1).toNat) = _
      unfold zup
      rw [if_pos (by omega)]
    rw [e2] at hk
    exact hk
/-- which types the arrays are of -/
def zat (t : Nat) : FieldType := match t with
  | 0 => .int
  | 1 => .long
  | 2 => .boolean
  | 3 => .object "CordCart$Cord"
  | 4 => .object "CordCart$Tape"
  | _ => .array .int
theorem zra_eq {U : State} {cA cB : ClassId} {t : Nat} (ht : t < 5) (h1 : va_RA U cA (zat t)) (h2 : va_RA U cB (zat t)) : cA = cB := by
  rcases (by omega : t = 0 ∨ t = 1 ∨ t = 2 ∨ t = 3 ∨ t = 4) with rfl | rfl | rfl | rfl | rfl
  · exact Option.some.inj (h1.symm.trans h2)
  · exact Option.some.inj (h1.symm.trans h2)
  · exact Option.some.inj (h1.symm.trans h2)
  · obtain ⟨_, _, -, -, -, q1⟩ := h1
    obtain ⟨_, _, -, -, -, q2⟩ := h2
    exact Option.some.inj (q1.symm.trans q2)
  · obtain ⟨_, _, -, -, -, q1⟩ := h1
    obtain ⟨_, _, -, -, -, q2⟩ := h2
    exact Option.some.inj (q1.symm.trans q2)
theorem zra_tl {U : State} {t : Nat} (ht : t < 5) (h : va_K D vwCl (ztl γ) U) : va_RA U (γ t) (zat t) := by
  rcases (by omega : t = 0 ∨ t = 1 ∨ t = 2 ∨ t = 3 ∨ t = 4) with rfl | rfl | rfl | rfl | rfl
  · exact (h.2 0 _ rfl).2
  · exact (h.2 1 _ rfl).2
  · exact (h.2 2 _ rfl).2
  · exact (h.2 3 _ rfl).2
  · exact (h.2 4 _ rfl).2
theorem zra_new {U : State} {cA : ClassId} {t : Nat} {ty : FieldType} (ht : t < 5) (hty : ty = zat t) (h : va_K D vwCl (ztl γ) U) (h2 : va_K D vwCl (ztl γ ++ [(cA, ty)]) U) : cA = γ t := by
  subst hty
  exact zra_eq ht (h2.2 6 _ rfl).2 (zra_tl ht h)
theorem so_newa {t : Nat} {at' : ArrayType} (ht : t < 3) (hp : P[i]? = some pc) (hq : P[i + 1]? = some (pc + 2)) (hd : decode B pc = .ok (.newarray at', 2)) (hty : newarray.typeOf at' = zat t) (hw : Cond.arrayClass (newarray.typeOf at') ∈ zT) : zSO l D γ τ L xs k B P i (zo_newa t) := by
  intro hB hP F hF st lo M X r M' X' h
  unfold zo_newa at h
  split at h
  · rename_i n st
    obtain ⟨⟨hn0, hn1, hc1, hc2⟩, h9⟩ := zg_some h
    clear h
    refine (hF _ _ _ _ _ _ _ _ _ h9).alloc (T := [(t, n.toNat)]) (dc := 1) (ds := n.toNat) rfl (by show X.2.1 - 1 + 1 = _; omega) (by show X.2.2 - n.toNat + n.toNat = _; omega) ?_ ?_
    · intro h
      show zsOK (X.1 ++ [(t, n.toNat)]).length _
      rw [List.length_append]
      exact zsOK.mk (.of2 ⟨by omega, by show _ ≤ ((X.1.length + 1 : Nat) : Int); omega⟩) (h.cons.2.mono (by omega))
    rintro p e R s m args below meth c A ⟨⟨hx, hb, hml, hown, hts, -⟩, hPer, hA⟩ ρ H locs ls hW hS hL hs cells slots Q hcc hss kk
    rw [zpc_of hP hp]; rw [zpc_of hP hq] at kk
    have hn : zI n := hs.cons.1.gi
    have hb2 : componentBytes (zat t) ≤ 8 := by
      rcases (by omega : t = 0 ∨ t = 1 ∨ t = 2) with rfl | rfl | rfl <;> decide
    obtain ⟨a0, ha0, hcell⟩ : ∃ a0 : vp_A, (∀ cA : ClassId, vp_cell cA a0 = arrV cA n.toNat (fun _ => defaultValue (zat t))) ∧ ∀ ρ', (Sum.inl (γ t, a0) : va_E) = zcell γ ρ' (t, n.toNat) (fun _ => 0) := by
      rcases (by omega : t = 0 ∨ t = 1 ∨ t = 2) with rfl | rfl | rfl
      · exact ⟨(n.toNat, .inl (fun _ => 0)), fun _ => rfl, fun _ => rfl⟩
      · exact ⟨(n.toNat, .inr (.inl (fun _ => 0))), fun _ => rfl, fun _ => rfl⟩
      · exact ⟨(n.toNat, .inl (fun _ => 0)), fun _ => rfl, fun _ => rfl⟩
    refine va_newa (a0 := a0) (ty := zat t) (N' := n.toNat) hx (hb.trans hB) (hts _ hw) hty hPer.1 hW.1 hW.2.1 hS hA ha0 (by rw [z32z, z32lt hn (by decide)]; omega) (zcl' hn hn0) (Nat.le_trans (Nat.mul_le_mul_left _ hb2) (by omega)) hcc hss hd (fun q cA H1 hK1 hP1 hD1 hS1 => ?_)
    obtain rfl := zra_new (t := t) (by omega) rfl hPer.1 hK1
    rw [hcell (zup ρ X.1.length q)] at hP1 hD1
    have hk := kk (zup ρ X.1.length q) H1 (fun x hx => by unfold zup; rw [if_neg (by omega)]) (zWd_new hW hP1 hD1) hS1
    have hr : ∀ x, x < X.1.length → zup ρ X.1.length q x = ρ x := fun x hx => by unfold zup; rw [if_neg (by omega)]
    rw [List.map_cons, zst_ext hs.cons.2 hr] at hk
    have e2 : zcv τ (zup ρ X.1.length q) (2, (X.1.length : Int) + 1) = .ref q := by
      show Value.ref (zup ρ X.1.length q ((X.1.length : Int) + 1 - 1).toNat) = _
      unfold zup
      rw [if_pos (by omega)]
    rw [e2] at hk
    exact hk
  · cases h
theorem so_newq {t idx : Nat} {own C : String} (ht : t = 3 ∨ t = 4) (hC : FieldType.object C = zat t) (hAO : ∀ (A : Nat → Prop) (U : State) (H : Heap), zPer D γ τ L xs A U H → va_AO C U) (hp : P[i]? = some pc) (hq : P[i + 1]? = some (pc + 3)) (hd : decode B pc = .ok (.anewarray idx, 3)) (ho : zow k = own) (hw : Cond.classLink own idx C ∈ zT) : zSO l D γ τ L xs k B P i (zo_newa t) := by
  intro hB hP F hF st lo M X r M' X' h
  unfold zo_newa at h
  split at h
  · rename_i n st
    obtain ⟨⟨hn0, hn1, hc1, hc2⟩, h9⟩ := zg_some h
    clear h
    refine (hF _ _ _ _ _ _ _ _ _ h9).alloc (T := [(t, n.toNat)]) (dc := 1) (ds := n.toNat) rfl (by show X.2.1 - 1 + 1 = _; omega) (by show X.2.2 - n.toNat + n.toNat = _; omega) ?_ ?_
    · intro h
      show zsOK (X.1 ++ [(t, n.toNat)]).length _
      rw [List.length_append]
      exact zsOK.mk (.of2 ⟨by omega, by show _ ≤ ((X.1.length + 1 : Nat) : Int); omega⟩) (h.cons.2.mono (by omega))
    rintro p e R s m args below meth c A ⟨⟨hx, hb, hml, hown, hts, -⟩, hPer, hA⟩ ρ H locs ls hW hS hL hs cells slots Q hcc hss kk
    rw [zpc_of hP hp]; rw [zpc_of hP hq] at kk
    rw [ho] at hown
    have hn : zI n := hs.cons.1.gi
    refine va_newq (N' := n.toNat) hx (hb.trans hB) hown (hts _ hw) (hAO A s s.heap hPer) hPer.1 hW.1 hW.2.1 hS hA (by rw [z32z, z32lt hn (by decide)]; omega) (zcl' hn hn0) (by omega) hcc hss hd (fun q cA H1 hK1 hP1 hD1 hS1 => ?_)
    obtain rfl := zra_new (t := t) (by omega) hC hPer.1 hK1
    have hcell : (Sum.inl (γ t, n.toNat, .inr (.inr (.inr (.inr (fun _ => none))))) : va_E) = zcell γ (zup ρ X.1.length q) (t, n.toNat) (fun _ => 0) := by
      have e : (fun _ => none : Nat → Option Nat) = (fun j : Nat => if j < n.toNat then zrf (zup ρ X.1.length q) 0 else none) := by
        funext j
        split <;> rfl
      rw [e]
      rcases ht with rfl | rfl <;> rfl
    rw [hcell] at hP1 hD1
    have hk := kk (zup ρ X.1.length q) H1 (fun x hx => by unfold zup; rw [if_neg (by omega)]) (zWd_new hW hP1 hD1) hS1
    have hr : ∀ x, x < X.1.length → zup ρ X.1.length q x = ρ x := fun x hx => by unfold zup; rw [if_neg (by omega)]
    rw [List.map_cons, zst_ext hs.cons.2 hr] at hk
    have e2 : zcv τ (zup ρ X.1.length q) (2, (X.1.length : Int) + 1) = .ref q := by
      show Value.ref (zup ρ X.1.length q ((X.1.length : Int) + 1 - 1).toNat) = _
      unfold zup
      rw [if_pos (by omega)]
    rw [e2] at hk
    exact hk
  · cases h
end SO5
