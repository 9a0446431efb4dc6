/-! THE OPERATIONS AGAINST THE INSTRUCTIONS: calls and ends -/
def zcw (c : Nat) : Cond := match zhh c with
  | [] => Cond.code (zy c) (zb c) (zml c) (zrt c)
  | hh => Cond.codeWith (zy c) (zb c) (zml c) (zrt c) hh
def zws (c : Nat) : List Cond := zcw c :: zT
theorem zcw_nil {c : Nat} (h : zhh c = []) : zcw c = Cond.code (zy c) (zb c) (zml c) (zrt c) := by
  unfold zcw
  rw [h]
theorem zcw_ne {c : Nat} (h : zhh c ≠ []) : zcw c = Cond.codeWith (zy c) (zb c) (zml c) (zrt c) (zhh c) := by
  cases hq : zhh c with
  | nil => exact absurd hq h
  | cons a t => simp [zcw, hq]
def zrv (τ ρ : Nat → Nat) (r : zV) : Option Value := if r.1 < 8 then some (zcv τ ρ r) else none
def zrm (c : Nat) (X X1 : zX) : Room := { frames := zlv c, cells := X.2.1 - X1.2.1, slots := X.2.2 - X1.2.2, locals := zlc c }
section SO7
variable (l : Launch) (D : va_G) (γ : Nat → ClassId) (τ : Nat → Nat) (L : Nat) (xs : Nat → Int32)
/-- what a call begins with, and what it ends with -/
def zPc (ρ : Nat → Nat) (sz : Nat) (as : List zV) (M : zM) (X : zX) : Array Value → State → Prop := va_Pc (as.map (zcv τ ρ)) (fun U => U.heap.size = sz ∧ va_P D vwCl (zwl γ ρ X.1 M) U.heap ∧ va_D (fun _ => True) (zwl γ ρ X.1 M) ∧ zMOK X.1 M ∧ zSc L xs M ∧ zPer D γ τ L xs (va_A (zwl γ ρ X.1 M) sz) U U.heap)
def zQc (ρ : Nat → Nat) (sz : Nat) (M : zM) (X : zX) (r : zV) (M1 : zM) (X1 : zX) : Array Value → State → Outcome → State → Prop := fun _ st o t =>
  (o = .returned (zrv τ ρ r) ∧ zVOK X1.1.length r ∧ (r.1 = 0 ∨ r.1 = 1 ∨ r.1 = 9) ∧ ∃ ρ1 : Nat → Nat, (∀ q, q < X.1.length → ρ1 q = ρ q) ∧ zWd D γ L xs (va_A (zwl γ ρ X.1 M) sz) ρ1 X1.1 M1 t.heap) ∧ va_F (va_A (zwl γ ρ X.1 M) sz) st t
end SO7
section SO8
variable {l : Launch} {D : va_G} {γ : Nat → ClassId} {τ : Nat → Nat} {L : Nat} {xs : Nat → Int32}
theorem zpad_cons {v : zV} {vs : List zV} : zpad (v :: vs) = if v.1 = 1 then v :: (9, 0) :: zpad vs else v :: zpad vs := rfl
theorem zlg_len {τ ρ : Nat → Nat} : ∀ {as : List zV}, (lg_sl (as.map (zcv τ ρ))).length = (zpad as).length
  | [] => rfl
  | v :: vs => by
    have ih := zlg_len (τ := τ) (ρ := ρ) (as := vs)
    unfold lg_sl at ih ⊢
    rw [List.map_cons, List.flatMap_cons, List.length_append, ih, zcv_cat, zpad_cons]
    by_cases h : v.1 = 1
    · rw [if_pos h, if_pos rfl, if_pos h]
      simp only [List.length_cons, List.length_nil]
      omega
    · rw [if_neg h, if_neg (by decide), if_neg h]
      simp only [List.length_cons, List.length_nil]
      omega
theorem zpad_mem {τ ρ : Nat → Nat} : ∀ {as : List zV} {n i : Nat} {v : zV}, (zpad as)[i]? = some v → v.1 ≠ 9 → (n + i, zcv τ ρ v) ∈ lv_args n (as.map (zcv τ ρ))
  | [], n, i, v, h, _ => by simp [zpad] at h
  | w :: vs, n, i, v, h, h9 => by
    rw [List.map_cons]
    unfold lv_args
    rw [zcv_cat]
    rw [zpad_cons] at h
    by_cases hw : w.1 = 1
    · rw [if_pos hw] at h
      rw [if_pos hw, if_pos rfl]
      match i, h with
      | 0, h => simp at h; subst h; exact List.mem_cons_self
      | 1, h => simp at h; subst h; exact absurd rfl h9
      | i + 2, h =>
        have := zpad_mem (τ := τ) (ρ := ρ) (as := vs) (n := n + 2) (i := i) (v := v) (by simpa using h) h9
        exact List.mem_cons_of_mem _ (by rw [show n + (i + 2) = n + 2 + i by omega]; exact this)
    · rw [if_neg hw] at h
      rw [if_neg hw, if_neg (by decide)]
      match i, h with
      | 0, h => simp at h; subst h; exact List.mem_cons_self
      | i + 1, h =>
        have := zpad_mem (τ := τ) (ρ := ρ) (as := vs) (n := n + 1) (i := i) (v := v) (by simpa using h) h9
        exact List.mem_cons_of_mem _ (by rw [show n + (i + 1) = n + 1 + i by omega]; exact this)
theorem zloc_len {n : Nat} {as : List zV} (h : (zpad as).length ≤ n) : (zloc n as).length = n := by
  unfold zloc
  rw [List.length_append, List.length_replicate]
  omega
theorem zloc_ok {n N : Nat} {as : List zV} (h : zsOK N as) : zsOK N (zloc n as) := by
  have key : ∀ {as : List zV}, zsOK N as → zsOK N (zpad as) := by
    intro as
    induction as with
    | nil => intro _; exact fun v hv => absurd hv List.not_mem_nil
    | cons w vs ih =>
      intro h
      rw [zpad_cons]
      split
      · exact zsOK.mk h.cons.1 (zsOK.mk .of9 (ih h.cons.2))
      · exact zsOK.mk h.cons.1 (ih h.cons.2)
  intro v hv
  rcases List.mem_append.mp hv with h1 | h1
  · exact key h v h1
  · rw [List.eq_of_mem_replicate h1]; exact .of9
theorem zloc_at {n i : Nat} {as : List zV} {v : zV} (h : (zloc n as)[i]? = some v) (h9 : v.1 ≠ 9) : (zpad as)[i]? = some v := by
  unfold zloc at h
  by_cases hi : i < (zpad as).length
  · rw [List.getElem?_append_left hi] at h; exact h
  · rw [List.getElem?_append_right (by omega)] at h
    have := List.eq_of_mem_replicate (List.mem_of_getElem? h)
    rw [this] at h9
    exact absurd rfl h9
/-- what a method's number must give -/
def zMOk (c : Nat) : Prop := plainFor (zy c) = true ∧ zow c = (zy c).cls ∧ zpc c 0 = 0
/-- a body with a table, met as one without -/
theorem zMet_ofWH {y : MethodName} {ws ws' : List Cond} {rm : Room} {Pc : Array Value → State → Prop} {Qc : Array Value → State → Outcome → State → Prop} {mc ms : Nat} {free : Addr → Prop} {cc : ByteArray} {maxL : Nat} {ret : Option FieldType} {hh : List (Nat × Nat × Nat × Nat)}
    (hy : plainFor y = true) (hw : ws = Cond.codeWith y cc maxL ret hh :: ws')
    (body : ∀ p e s m args below meth c s₁, BodyLoose p l y (headSpec ws rm) cc maxL ret e s m args below meth c s₁ → c.maxLocals = maxL → Pc args s →
      W p l e (headSpec ws rm).room s m args below meth c s.heap [] 0 0 (MQ below Qc args s mc ms free) (entryFrame m args maxL)) : Met l y ws rm Pc Qc mc ms free := by
  refine MetFree.of_bodySF (code := cc) (maxLocals := maxL) (ret := ret) hy ?_ ?_
  · intro args s m h hn
    obtain ⟨m9, meth, c, hn9, h1, h2, h3, h4, -, h5, h6, -⟩ := Cond.codeWith_spec (atoms_spec (ws := ws) h _ (by rw [hw]; exact List.mem_cons_self))
    cases hn.symm.trans hn9
    exact ⟨meth, c, h1, h2, h3, h4, h5, h6⟩
  · intro p e s m args below meth c s₁ B hml hP _
    have hh0 : s₁.heap = s.heap := by rw [B.state]; rfl
    obtain ⟨t, a1, o, b1, b2, b3⟩ := body p e s m args below meth c s₁ B hml hP s₁ hh0 (Stand.of_body B)
    exact ⟨t, o, a1, b1, b2, b3⟩
/-- the body's walk out of its goal -/
theorem zBody {c sz : Nat} {as : List zV} {M M1 : zM} {X X1 : zX} {r : zV} {ρ : Nat → Nat} (hc : zMOk c) (hn : (zpad as).length ≤ zml c) (g : zGoal l D γ τ L xs c 0 [] (zloc (zml c) as) M X r M1 X1) (hok : zsOK X.1.length as)
    {p : Program} {e : Env} {s : State} {m : MethodId} {args : Array Value} {below : List Frame} {meth : Method} {cd : Code} {s₁ : State} (B : BodyLoose p l (zy c) (headSpec (zws c) (zrm c X X1)) (zb c) (zml c) (zrt c) e s m args below meth cd s₁) (hml : cd.maxLocals = zml c) (hv : zPc D γ τ L xs ρ sz as M X args s) {Q : State → Prop}
    (hend : sz = s.heap.size → ∀ (i' : Nat) (ρ' : Nat → Nat) (H' : Heap) (locs' : List Loc) (ls' : Array Slot) (cs ss : Nat), zCtx D γ τ L xs c p (headSpec (zws c) (zrm c X X1)).room s m args meth cd (va_A (zwl γ ρ X.1 M) sz) → zEnd l D γ τ L xs c r i' → (∀ q, q < X.1.length → ρ' q = ρ q) → zWd D γ L xs (va_A (zwl γ ρ X.1 M) sz) ρ' X1.1 M1 H' → va_S (va_A (zwl γ ρ X.1 M) sz) s.heap H' locs' → ls'.size = zml c →
      (if r.1 = 8 then cs + 1 = 0 + (X.2.1 - X1.2.1) ∧ ss + 6 = 0 + (X.2.2 - X1.2.2) else cs = 0 + (X.2.1 - X1.2.1) ∧ ss = 0 + (X.2.2 - X1.2.2)) →
      W p l e (headSpec (zws c) (zrm c X X1)).room s m args below meth cd H' locs' cs ss Q (F0 m (zpc c i') ls' (zes τ ρ' r))) :
    W p l e (headSpec (zws c) (zrm c X X1)).room s m args below meth cd s.heap [] 0 0 Q (entryFrame m args (zml c)) := by
  obtain ⟨hc1, hc2, hc3⟩ := hc
  obtain ⟨rfl, hsz, hP, hD0, hM, hSc, hPer⟩ := hv
  have hts := atoms_spec (ws := zws c) B.pre
  have hown : s.vm.findClass (zow c) = some m.cls := by rw [hc2]; exact findClass_of_methodNamed B.named
  subst hsz
  have hD := hD0.self (sz := s.heap.size)
  obtain ⟨-, -, -, g4⟩ := g
  rw [lg_entry_eq]
  have hl := lv_entry (as.map (zcv τ ρ)) (n := zml c) (by rw [zlg_len]; exact hn)
  generalize (lg_sl (as.map (zcv τ ρ)) ++ List.replicate (zml c - (lg_sl (as.map (zcv τ ρ))).length) Slot.unset).toArray = ls at hl ⊢
  have hL : zLc τ ρ (zml c) (zloc (zml c) as) ls := by
    refine ⟨zloc_len hn, hl.1, hl.2.1, fun q hq => hl.2.2 q ?_⟩
    obtain ⟨i, v, h1, h2, rfl⟩ := zlvl_mem.mp hq
    exact zpad_mem (zloc_at h1 h2) h2
  have hC : zCtx D γ τ L xs c p (headSpec (zws c) (zrm c X X1)).room s m (as.map (zcv τ ρ)).toArray meth cd (va_A (zwl γ ρ X.1 M) s.heap.size) :=
    ⟨⟨B.exec, B.bytes, hml, hown, fun w hw => hts w (List.mem_cons_of_mem _ hw), Nat.le_refl _, Nat.le_refl _, fun h => by rw [(name_of_methodNamed B.named B.method).1]; exact h, fun h => vx_table (x := zy c) B (by rw [← zcw_ne h]; exact hts _ List.mem_cons_self)⟩, hPer, fun q hq => Or.inr hq⟩
  have key := g4 p e (headSpec (zws c) (zrm c X X1)).room s m (as.map (zcv τ ρ)).toArray below meth cd (va_A (zwl γ ρ X.1 M) s.heap.size) hC
    ρ s.heap [] ls ⟨hP, hD, hM, hSc⟩ va_S.rf hL (fun v hv => absurd hv List.not_mem_nil) (zloc_ok hok) 0 0 Q
    (by rw [Nat.zero_add]; exact Nat.le_refl _) (by rw [Nat.zero_add]; exact Nat.le_refl _) (fun i' ρ' H' locs' ls' cs ss hE hr hW' hS' hls hcs => hend rfl i' ρ' H' locs' ls' cs ss hC hE hr hW' hS' hls hcs)
  rw [hc3] at key
  exact key
set_option maxHeartbeats 4000000 in
/-- a method whose abstract run is known meets its contract -/
theorem zMet {c sz : Nat} {as : List zV} {M M1 : zM} {X X1 : zX} {r : zV} {ρ : Nat → Nat} (hc : zMOk c) (hn : (zpad as).length ≤ zml c) (g : zGoal l D γ τ L xs c 0 [] (zloc (zml c) as) M X r M1 X1) (h8 : r.1 ≠ 8) (hok : zsOK X.1.length as) :
    Met l (zy c) (zws c) (zrm c X X1) (zPc D γ τ L xs ρ sz as M X) (zQc D γ τ L xs ρ sz M X r M1 X1) (X.2.1 - X1.2.1) (X.2.2 - X1.2.2) (va_A (zwl γ ρ X.1 M) sz) := by
  have body : ∀ p e s m args below meth cd s₁, BodyLoose p l (zy c) (headSpec (zws c) (zrm c X X1)) (zb c) (zml c) (zrt c) e s m args below meth cd s₁ → cd.maxLocals = zml c → zPc D γ τ L xs ρ sz as M X args s →
      W p l e (headSpec (zws c) (zrm c X X1)).room s m args below meth cd s.heap [] 0 0 (MQ below (zQc D γ τ L xs ρ sz M X r M1 X1) args s (X.2.1 - X1.2.1) (X.2.2 - X1.2.2) (va_A (zwl γ ρ X.1 M) sz)) (entryFrame m args (zml c)) := by
    intro p e s m args below meth cd s₁ B hml hv
    refine zBody hc hn g hok B hml hv ?_
    intro hsz i' ρ' H' locs' ls' cs ss hC hE hr hW' hS' hls hcs
    rw [if_neg h8, Nat.zero_add, Nat.zero_add] at hcs
    obtain ⟨rfl, rfl⟩ := hcs
    have hF : ∀ t : State, t.heap = H' → va_F (va_A (zwl γ ρ X.1 M) sz) s t := fun t ht => hS'.F ht
    have hlocks := B.notSynchronized
    obtain ⟨t, v⟩ := r
    match t, hE, h8 with
    | 0, hE, _ =>
      obtain ⟨h1, h2, h3⟩ := hE
      have hq : ∀ t : State, t.heap = H' → s.WarmedH t.vm → zQc D γ τ L xs ρ sz M X (0, v) M1 X1 args s (.returned (some (.int (Int32.ofInt v)))) t := fun t ht _ => ⟨⟨rfl, .of0 h2, Or.inl rfl, ρ', hr, by rw [ht]; exact hW'⟩, hF t ht⟩
      rcases h3 with h3 | ⟨h3, h4⟩
      · exact W.iret B.exec B.bytes (B.returns.trans h3) hq hS'.2.2 h1
      · exact W.zret (ty := .boolean) B.exec B.bytes (B.returns.trans h3) (by rcases h4 with rfl | rfl <;> rfl) hq hS'.2.2 h1
    | 1, hE, _ =>
      obtain ⟨h1, h2, h3⟩ := hE
      exact W.lret B.exec B.bytes (B.returns.trans h3) (fun t ht _ => ⟨⟨rfl, .of1 h2, Or.inr (Or.inl rfl), ρ', hr, by rw [ht]; exact hW'⟩, hF t ht⟩) hS'.2.2 h1
    | 9, hE, _ =>
      obtain ⟨h1, h2⟩ := hE
      exact W.vret B.exec B.bytes (B.returns.trans h2) (fun t ht _ => ⟨⟨rfl, .of9, Or.inr (Or.inr rfl), ρ', hr, by rw [ht]; exact hW'⟩, hF t ht⟩) hS'.2.2 h1
    | 8, _, h8 => exact absurd rfl h8
    | 2, hE, _ => exact absurd hE id
    | 3, hE, _ => exact absurd hE id
    | 4, hE, _ => exact absurd hE id
    | 5, hE, _ => exact absurd hE id
    | 6, hE, _ => exact absurd hE id
    | 7, hE, _ => exact absurd hE id
    | t + 10, hE, _ => exact absurd hE id
  by_cases hz : zhh c = []
  · exact va_MetF (cc := zb c) (maxL := zml c) (ret := zrt c) hc.1 (ws' := zT) (by unfold zws; rw [zcw_nil hz]) body
  · exact zMet_ofWH (cc := zb c) (maxL := zml c) (ret := zrt c) (hh := zhh c) hc.1 (ws' := zT) (by unfold zws; rw [zcw_ne hz]) body
/-- a method whose abstract run throws -/
def zXc (D : va_G) (γ : Nat → ClassId) (L : Nat) (xs : Nat → Int32) (ρ : Nat → Nat) (sz : Nat) (M : zM) (X : zX) (x : Nat) (M1 : zM) (X1 : zX) : String → State → State → Prop := fun E st t =>
  E = zEn x ∧ (∃ ρ1 : Nat → Nat, (∀ q, q < X.1.length → ρ1 q = ρ q) ∧ zWd D γ L xs (va_A (zwl γ ρ X.1 M) sz) ρ1 X1.1 M1 t.heap) ∧ va_F (va_A (zwl γ ρ X.1 M) sz) st t
set_option maxHeartbeats 4000000 in
theorem zMetX {c sz : Nat} {as : List zV} {M M1 : zM} {X X1 : zX} {v : Int} {ρ : Nat → Nat} (hst : l.stackTraces = false) (hpl : plainName (zy c).cls = true) (hc : zMOk c) (hz : zhh c = []) (hn : (zpad as).length ≤ zml c) (g : zGoal l D γ τ L xs c 0 [] (zloc (zml c) as) M X (8, v) M1 X1) (hok : zsOK X.1.length as) {x : Nat} (hx12 : x = 1 ∨ x = 2) (hv : (v < 2000 ↔ x = 1)) :
    vx_Met l (zy c) (zws c) (zrm c X X1) (zPc D γ τ L xs ρ sz as M X) (fun _ _ _ _ => False) (zXc D γ L xs ρ sz M X x M1 X1) (X.2.1 - X1.2.1) (X.2.2 - X1.2.2) (va_A (zwl γ ρ X.1 M) sz) := by
  refine vx_ofW (cc := zb c) (maxL := zml c) (ret := zrt c) hpl (ws' := zT) (by unfold zws; rw [zcw_nil hz]) ?_
  intro p e s m args below meth cd s₁ B hml htab hpre
  refine zBody hc hn g hok B hml hpre ?_
  intro hsz i' ρ' H' locs' ls' cs ss hC hE hr hW' hS' hls hcs
  rw [if_pos rfl, Nat.zero_add, Nat.zero_add] at hcs
  obtain ⟨y, hy12, hi', hvy, hthr⟩ := hE
  have hxy : y = x := by
    rcases hy12 with rfl | rfl <;> rcases hx12 with rfl | rfl
    · rfl
    · omega
    · omega
    · rfl
  subst hxy
  refine hthr p e _ s m args below meth cd _ H' locs' cs ss (X.2.1 - X1.2.1) (X.2.2 - X1.2.2) ls' _ _ _ hC hst htab B.notSynchronized hS' (hls.trans hml.symm) ?_ hS'.2.2 (by omega) (by omega) (by show _ ≤ X.2.1 - X1.2.1; omega) (by show _ ≤ X.2.2 - X1.2.2; omega)
  intro t ht hsz2 hkeep
  refine ⟨rfl, ⟨ρ', hr, hW'.1.kept (fun k q hk => hkeep q.1 (vx_lt hW'.1 hk)), hW'.2⟩, Nat.le_trans hS'.1 hsz2, fun q h1 h2 => ?_⟩
  rw [hkeep q (Nat.lt_of_lt_of_le h1 hS'.1)]
  exact hS'.2.1 q h1 h2
theorem zPc_blind {ρ : Nat → Nat} {sz : Nat} {as : List zV} {M : zM} {X : zX} : FrameBlind (zPc D γ τ L xs ρ sz as M X) := by
  intro a U g mk h
  obtain ⟨h1, h2, h3, h4, h5, h6, h7⟩ := h
  exact ⟨h1, h2, h3, h4, h5, h6, zPer.same (u := U) (U := U.calling g mk a) rfl h7⟩
theorem zPc_at {p : Program} {R : Room} {s : State} {m : MethodId} {args : Array Value} {meth : Method} {c : Code} {k : Nat} {A : Nat → Prop} {ρ : Nat → Nat} {as : List zV} {M : zM} {X : zX} {H : Heap} {locs : List Loc} (hC : zCtx D γ τ L xs k p R s m args meth c A) (hW : zWd D γ L xs A ρ X.1 M H) (hS : va_S A s.heap H locs) :
    (∀ q, va_A (zwl γ ρ X.1 M) H.size q → A q) ∧ ∀ U : State, U.heap = H → s.WarmedH U.vm → zPc D γ τ L xs ρ H.size as M X (as.map (zcv τ ρ)).toArray U := by
  have hFc : ∀ q, va_A (zwl γ ρ X.1 M) H.size q → A q := by
    rintro q (⟨k, e, h⟩ | h)
    · exact hW.2.1.2 k (q, e) h
    · exact hC.2.2 q (Nat.le_trans hS.1 h)
  refine ⟨hFc, fun U hU hWm => ⟨rfl, by rw [hU], by rw [hU]; exact hW.1, hW.2.1.weaken (fun _ _ _ _ => trivial), hW.2.2.1, hW.2.2.2, ?_⟩⟩
  rw [hU]
  exact ((hC.2.1.kept (H1 := H) (fun a h1 h2 => hS.2.1 a h1 h2)).warm hWm).narrow hFc
/-- behind a call -/
theorem zcall {p : Program} {e : Env} {R : Room} {s : State} {m : MethodId} {args : Array Value} {below : List Frame} {meth : Method} {c : Code} {H : Heap} {locs : List Loc} {cells slots mc ms pc : Nat} {Q : State → Prop} {ls : Array Slot} {st0 rest : List Value} {a : Array Value} {A0 : Nat → Prop} {H0 : Heap} {ρ : Nat → Nat} {M M1 : zM} {X X1 : zX} {r : zV}
    (hr : va_Run p l e R s m args below meth c H locs cells slots mc ms (F0 m pc ls st0) rest (zQc D γ τ L xs ρ H.size M X r M1 X1 a) (va_A (zwl γ ρ X.1 M) H.size)) (hS : va_S A0 H0 H locs) (hf : ∀ q, va_A (zwl γ ρ X.1 M) H.size q → A0 q)
    (kk : ∀ (ρ1 : Nat → Nat) (H1 : Heap) (locs1 : List Loc), zVOK X1.1.length r → (r.1 = 0 ∨ r.1 = 1 ∨ r.1 = 9) → (∀ q, q < X.1.length → ρ1 q = ρ q) → zWd D γ L xs A0 ρ1 X1.1 M1 H1 → va_S A0 H0 H1 locs1 → W p l e R s m args below meth c H1 locs1 (cells + mc) (slots + ms) Q (F0 m (pc + 3) ls ((zrv τ ρ r).toList ++ rest))) : W p l e R s m args below meth c H locs cells slots Q (F0 m pc ls st0) := by
  intro T hT X9
  obtain ⟨v, st₀, t, T', Ls, h0, X', hL, e1, e2, ⟨⟨hv, hok, hr9, ρ1, hr1, hw1⟩, hz, hk⟩, st⟩ := hr T hT X9
  have hv := Outcome.returned.inj hv
  rw [h0] at hz hk
  obtain ⟨t2, a1, b1⟩ := kk ρ1 T'.heap (locs ++ Ls) hok hr9 hr1 (by rw [e1]; exact ⟨hw1.1, hw1.2.1.weaken (fun k q _ h => hf q.1 h), hw1.2.2⟩)
    ⟨Nat.le_trans hS.1 (by rw [e1]; exact hz), fun q h1 h2 => by rw [e1, hk q (Nat.lt_of_lt_of_le h1 hS.1) (fun z => h2 (hf q z))]; exact hS.2.1 q h1 h2, fun q hq => by
      rcases List.mem_append.mp hq with h | h
      · exact hS.2.2 q h
      · exact hf _ (hL q h)⟩ T' rfl X'
  rw [← hv] at a1
  exact ⟨t2, st t2 a1, b1⟩
/-- what a call stands on: its callee's words and room -/
def zCal (k c n : Nat) : Prop := zMOk c ∧ zcw c ∈ zT ∧ zhh c = [] ∧ Cond.initialized (zy c).cls ∈ zT ∧ (zy c).cls ≠ "java/lang/invoke/MethodHandle" ∧ (zy c).cls ≠ "java/lang/invoke/VarHandle" ∧ (parseMethodDescriptor (zy c).desc).map (fun d => d.parameters.length) = some n ∧ zlv c + 1 ≤ zlv k ∧ 8 + (zml c + 11) + zlc c ≤ zlc k
theorem zws_good {c : Nat} (h1 : zcw c ∈ zT) : GoodIn zT (zws c) := goodIn_sub (fun w hw => by
  rcases List.mem_cons.mp hw with rfl | hw
  · exact h1
  · exact hw) (List.all_eq_true.mpr fun w hw => by
  rcases List.mem_cons.mp hw with rfl | hw
  · exact zT_good _ h1
  · exact zT_good _ hw)
/-- how a call is run: (the receiver's kind or 0) -/
def zRun (l : Launch) (D : va_G) (γ : Nat → ClassId) (τ : Nat → Nat) (L : Nat) (xs : Nat → Int32) (k c n kd : Nat) (B : ByteArray) (pc : Nat) : Prop := ∀ (p : Program) (e : Env) (R : Room) (s : State) (m : MethodId) (args : Array Value) (below : List Frame) (meth : Method) (cd : Code) (A : Nat → Prop), zCtx D γ τ L xs k p R s m args meth cd A → cd.code = B →
  ∀ (ρ : Nat → Nat) (H : Heap) (locs : List Loc) (ls : Array Slot) (as : List zV) (rest : List Value) (M M1 : zM) (X X1 : zX) (r : zV) (cells slots : Nat), zWd D γ L xs A ρ X.1 M H → va_S A s.heap H locs → ls.size = zml k → as.length = n → (kd ≠ 0 → (as.headD (9, 0)).1 = 2 ∧ zkd X (as.headD (9, 0)).2 = (kd, 0)) →
  (rest.map fun v => v.category).sum ≤ 8 → cells + (X.2.1 - X1.2.1) ≤ R.cells → slots + (X.2.2 - X1.2.2) ≤ R.slots →
  Met l (zy c) (zws c) (zrm c X X1) (zPc D γ τ L xs ρ H.size as M X) (zQc D γ τ L xs ρ H.size M X r M1 X1) (X.2.1 - X1.2.1) (X.2.2 - X1.2.2) (va_A (zwl γ ρ X.1 M) H.size) →
  va_Run p l e R s m args below meth cd H locs cells slots (X.2.1 - X1.2.1) (X.2.2 - X1.2.2) (F0 m pc ls ((as.map (zcv τ ρ)).reverse ++ rest)) rest (zQc D γ τ L xs ρ H.size M X r M1 X1 (as.map (zcv τ ρ)).toArray) (va_A (zwl γ ρ X.1 M) H.size)
theorem zrun_S {k c n idx pc : Nat} {B : ByteArray} {own : String} (hd : decode B pc = .ok (.invokestatic idx, 3)) (ho : zow k = own) (hc : zCal k c n) (hw : Cond.methodLink own idx (zy c) ∈ zT ∧ Cond.static (zy c) ∈ zT) : zRun l D γ τ L xs k c n 0 B pc := by
  intro p e R s m args below meth cd A hC hB ρ H locs ls as rest M M1 X X1 r cells slots hW hS hls hn hkd hcat hcc hss hM
  obtain ⟨⟨hx, hb, hml, hown, hts, hfr, hlc, hnm, hht⟩, hPer, hA⟩ := id hC
  obtain ⟨h1, h2, h3, h4, h5, h6, h7, h8, h9⟩ := hc
  rw [ho] at hown
  have cb := callB_of (R := R) (Ts := zT) (s := s) (args := args) (own := own) (index := idx) (y := zy c) (rm := zrm c X X1) (mc := X.2.1 - X1.2.1) (ms := X.2.2 - X1.2.2) n hts (zws_good h2) (ws' := zT) (by unfold zws; rw [zcw_nil h3]) rfl rfl (hts _ h4) (hts _ hw.1) ⟨h5, h6, h7⟩ ⟨by show zlv c + 1 ≤ _; omega, by show _ + zlc c ≤ _; omega⟩
  exact va_runS (As := as.map (zcv τ ρ)) (rest := rest) ⟨hx, hB, hml, hown, hts⟩ hM ⟨cb, hts _ hw.2⟩ ⟨zPc_blind, (zPc_at hC hW hS).2⟩ rfl (by rw [List.length_map]; exact hn) hls rfl (lv_room hcat) hd ⟨hcc, hss⟩
theorem zrun_SN {k c n idx pc : Nat} {B : ByteArray} {own host : String} (hd : decode B pc = .ok (.invokestatic idx, 3)) (ho : zow k = own) (hc : zCal k c n) (hw : Cond.methodLinkNest own idx (zy c) host ∈ zNw ∧ Cond.static (zy c) ∈ zT) : zRun l D γ τ L xs k c n 0 B pc := by
  intro p e R s m args below meth cd A hC hB ρ H locs ls as rest M M1 X X1 r cells slots hW hS hls hn hkd hcat hcc hss hM
  obtain ⟨⟨hx, hb, hml, hown, hts, hfr, hlc, hnm, hht⟩, hPer, hA⟩ := id hC
  obtain ⟨h1, h2, h3, h4, h5, h6, h7, h8, h9⟩ := hc
  rw [ho] at hown
  have cb := va_cnB (R := R) (Ts := zT) (s := s) (args := args) (own := own) (index := idx) (y := zy c) (host := host) (rm := zrm c X X1) (mc := X.2.1 - X1.2.1) (ms := X.2.2 - X1.2.2) n hts (zws_good h2) (ws' := zT) (by unfold zws; rw [zcw_nil h3]) rfl rfl (hPer.2.2.2.1 _ hw.1) (hts _ h4) ⟨h5, h6, h7⟩ ⟨by show zlv c + 1 ≤ _; omega, by show _ + zlc c ≤ _; omega⟩
  exact va_runSN (As := as.map (zcv τ ρ)) (rest := rest) ⟨hx, hB, hml, hown, hts⟩ hM ⟨cb, hts _ hw.2, trivial⟩ ⟨zPc_blind, (zPc_at hC hW hS).2⟩ rfl (by rw [List.length_map]; exact hn) hls rfl (lv_room hcat) hd ⟨hcc, hss⟩
theorem zhead {as : List zV} {n : Nat} (hn : as.length = n + 1) (h2 : (as.headD (9, 0)).1 = 2) : ∃ (x : Int) (as' : List zV), as = (2, x) :: as' ∧ as'.length = n := by
  match as, hn with
  | (t, x) :: as', hn =>
    have h2 : t = 2 := h2
    subst h2
    exact ⟨x, as', rfl, by simpa using hn⟩
theorem zrun_I {k c n kd idx pc : Nat} {B : ByteArray} {own : String} (hd : decode B pc = .ok (.invokespecial idx, 3)) (ho : zow k = own) (hc : zCal k c n) (hret : zrt c = none) (hkd0 : kd ≠ 0) (hw : Cond.methodLink own idx (zy c) ∈ zT ∧ Cond.instanceMethod (zy c) ∈ zT ∧ (zy c).name = "<init>") : zRun l D γ τ L xs k c (n + 1) kd B pc := by
  intro p e R s m args below meth cd A hC hB ρ H locs ls as rest M M1 X X1 r cells slots hW hS hls hn hkd hcat hcc hss hM
  obtain ⟨x, as, rfl, hn5⟩ := zhead hn (hkd hkd0).1
  obtain ⟨⟨hx, hb, hml, hown, hts, hfr, hlc, hnm, hht⟩, hPer, hA⟩ := id hC
  obtain ⟨h1, h2, h3, h4, h5, h6, h7, h8, h9⟩ := hc
  rw [ho] at hown
  have cb := callB_of (R := R) (Ts := zT) (s := s) (args := args) (own := own) (index := idx) (y := zy c) (bytes := zb c) (maxL := zml c) (ret := none) (ws := zws c) (ws' := zT) (rm := zrm c X X1) (mc := X.2.1 - X1.2.1) (ms := X.2.2 - X1.2.2) n hts (zws_good h2) (by unfold zws; rw [zcw_nil h3, hret]) rfl rfl (hts _ h4) (hts _ hw.1) ⟨h5, h6, h7⟩ ⟨by show zlv c + 1 ≤ _; omega, by show _ + zlc c ≤ _; omega⟩
  exact va_runI (b := ρ (x - 1).toNat) (As := as.map (zcv τ ρ)) (rest := rest) ⟨hx, hB, hml, hown, hts⟩ hM ⟨cb, hw.2.2, hts _ hw.2.1⟩ ⟨zPc_blind, (zPc_at (as := (2, x) :: as) hC hW hS).2⟩ rfl (by rw [List.length_map]; exact hn5) hls (by rw [List.map_cons, List.reverse_cons, List.append_assoc]; rfl) (lv_room hcat) hd ⟨hcc, hss⟩
theorem zrun_IN {k c n kd idx pc : Nat} {B : ByteArray} {own host : String} (hd : decode B pc = .ok (.invokespecial idx, 3)) (ho : zow k = own) (hc : zCal k c n) (hret : zrt c = none) (hkd0 : kd ≠ 0) (hw : Cond.methodLinkNest own idx (zy c) host ∈ zNw ∧ Cond.instanceMethod (zy c) ∈ zT ∧ (zy c).name = "<init>") : zRun l D γ τ L xs k c (n + 1) kd B pc := by
  intro p e R s m args below meth cd A hC hB ρ H locs ls as rest M M1 X X1 r cells slots hW hS hls hn hkd hcat hcc hss hM
  obtain ⟨x, as, rfl, hn5⟩ := zhead hn (hkd hkd0).1
  obtain ⟨⟨hx, hb, hml, hown, hts, hfr, hlc, hnm, hht⟩, hPer, hA⟩ := id hC
  obtain ⟨h1, h2, h3, h4, h5, h6, h7, h8, h9⟩ := hc
  rw [ho] at hown
  have cb := va_cnB (R := R) (Ts := zT) (s := s) (args := args) (own := own) (index := idx) (y := zy c) (host := host) (bytes := zb c) (maxL := zml c) (ret := none) (ws := zws c) (ws' := zT) (rm := zrm c X X1) (mc := X.2.1 - X1.2.1) (ms := X.2.2 - X1.2.2) n hts (zws_good h2) (by unfold zws; rw [zcw_nil h3, hret]) rfl rfl (hPer.2.2.2.1 _ hw.1) (hts _ h4) ⟨h5, h6, h7⟩ ⟨by show zlv c + 1 ≤ _; omega, by show _ + zlc c ≤ _; omega⟩
  exact va_runIN (b := ρ (x - 1).toNat) (As := as.map (zcv τ ρ)) (rest := rest) ⟨hx, hB, hml, hown, hts⟩ hM ⟨cb, hw.2.2, hts _ hw.2.1⟩ ⟨zPc_blind, (zPc_at (as := (2, x) :: as) hC hW hS).2⟩ rfl (by rw [List.length_map]; exact hn5) hls (by rw [List.map_cons, List.reverse_cons, List.append_assoc]; rfl) (lv_room hcat) hd ⟨hcc, hss⟩
theorem zrecv {s : State} {H : Heap} {A : Nat → Prop} {ρ : Nat → Nat} {M : zM} {X : zX} {ci N : Nat} {x : Int} {C : String} {T : u_T} (hK : va_K D vwCl (ztl γ) s) (hW : zWd D γ L xs A ρ X.1 M H) (hC : vwCl[ci]? = some (C, T, N) ∧ ci < 13) (hz : zkd X x = (6 + ci, 0)) : ∃ cell : Cell, H[ρ (x - 1).toNat]? = some cell ∧ cell.vm.isStatics = false ∧ s.vm.findClass C = some cell.cls := by
  have hK2 := (zkd_some hz (show 6 + ci < 99 by omega)).2.1
  have he := zwl_at (γ := γ) (ρ := ρ) (M := M) hK2
  rw [zcell_obj] at he
  exact va_recv hK hW.1 hC.1 he
theorem zrun_V {k c n ci N idx pc : Nat} {B : ByteArray} {own C : String} {T : u_T} (hd : decode B pc = .ok (.invokevirtual idx, 3)) (ho : zow k = own) (hc : zCal k c n) (hC : vwCl[ci]? = some (C, T, N) ∧ ci < 13) (hw : Cond.methodLink own idx (zy c) ∈ zT ∧ Cond.instanceMethod (zy c) ∈ zT ∧ Cond.selects C (zy c) (zy c) ∈ zT) : zRun l D γ τ L xs k c (n + 1) (6 + ci) B pc := by
  intro p e R s m args below meth cd A hCx hB ρ H locs ls as rest M M1 X X1 r cells slots hW hS hls hn hkd hcat hcc hss hM
  obtain ⟨hk2, hkz⟩ := hkd (by omega)
  obtain ⟨x, as, rfl, hn5⟩ := zhead hn hk2
  obtain ⟨⟨hx, hb, hml, hown, hts, hfr, hlc, hnm, hht⟩, hPer, hA⟩ := id hCx
  obtain ⟨h1, h2, h3, h4, h5, h6, h7, h8, h9⟩ := hc
  rw [ho] at hown
  have cb := callB_of (R := R) (Ts := zT) (s := s) (args := args) (own := own) (index := idx) (y := zy c) (rm := zrm c X X1) (mc := X.2.1 - X1.2.1) (ms := X.2.2 - X1.2.2) n hts (zws_good h2) (ws' := zT) (by unfold zws; rw [zcw_nil h3]) rfl rfl (hts _ h4) (hts _ hw.1) ⟨h5, h6, h7⟩ ⟨by show zlv c + 1 ≤ _; omega, by show _ + zlc c ≤ _; omega⟩
  exact va_runV (C := C) (b := ρ (x - 1).toNat) (As := as.map (zcv τ ρ)) (rest := rest) ⟨hx, hB, hml, hown, hts⟩ hM ⟨cb, hts _ hw.2.1, hts _ hw.2.2⟩ ⟨zPc_blind, zrecv hPer.1 hW hC hkz, (zPc_at (as := (2, x) :: as) hCx hW hS).2⟩ rfl (by rw [List.length_map]; exact hn5) hls (by rw [List.map_cons, List.reverse_cons, List.append_assoc]; rfl) (lv_room hcat) hd ⟨hcc, hss⟩
end SO8
