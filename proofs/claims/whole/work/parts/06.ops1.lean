/-! THE OPERATIONS AGAINST THE INSTRUCTIONS: stack, locals, numbers, branches -/
section SO1
variable {l : Launch} {D : va_G} {γ : Nat → ClassId} {τ : Nat → Nat} {L : Nat} {xs : Nat → Int32} {k i pc : Nat} {B : ByteArray} {P : List Nat}
/-- a step on the stack alone -/
theorem zstp_pure {st st1 lo : List zV} {M : zM} {X : zX} {i1 : Nat} (hok : zsOK X.1.length st → zsOK X.1.length lo → zsOK X.1.length st1)
    (h : ∀ (p : Program) (e : Env) (R : Room) (s : State) (m : MethodId) (args : Array Value) (below : List Frame) (meth : Method) (c : Code) (H : Heap) (locs : List Loc) (cells slots : Nat) (Q : State → Prop) (ls : Array Slot) (ρ : Nat → Nat),
      zFr k p R s m args meth c → zLc τ ρ (zml k) lo ls → zsOK X.1.length st → zsOK X.1.length lo → W p l e R s m args below meth c H locs cells slots Q (F0 m (zpc k i1) ls (st1.map (zcv τ ρ))) → W p l e R s m args below meth c H locs cells slots Q (F0 m (zpc k i) ls (st.map (zcv τ ρ)))) :
    zStp l D γ τ L xs k i st lo M X i1 st1 lo M := by
  intro p e R s m args below meth c A hC ρ H locs ls hW hS hL hs hl cells slots Q kk
  exact h p e R s m args below meth c H locs cells slots Q ls ρ hC.1 hL hs hl (kk H locs ls hW hS hL (hok hs hl) hl)
theorem zsOK.cons {n : Nat} {v : zV} {st : List zV} (h : zsOK n (v :: st)) : zVOK n v ∧ zsOK n st := ⟨h v List.mem_cons_self, fun w hw => h w (List.mem_cons_of_mem _ hw)⟩
theorem zsOK.mk {n : Nat} {v : zV} {st : List zV} (hv : zVOK n v) (h : zsOK n st) : zsOK n (v :: st) := by
  intro w hw
  rcases List.mem_cons.mp hw with rfl | hw
  · exact hv
  · exact h w hw
theorem zVOK.gi {n : Nat} {x : Int} (h : zVOK n (0, x)) : zI x := h.1 rfl
theorem zVOK.gl {n : Nat} {x : Int} (h : zVOK n (1, x)) : zL x := h.2.1 rfl
theorem zVOK.gr {n : Nat} {x : Int} (h : zVOK n (2, x)) : 0 < x ∧ x ≤ (n : Int) := h.2.2.1 rfl
theorem zVOK.of0 {n : Nat} {x : Int} (h : zI x) : zVOK n (0, x) := ⟨fun _ => h, fun q => by simp at q, fun q => by simp at q, by simp⟩
theorem zVOK.of1 {n : Nat} {x : Int} (h : zL x) : zVOK n (1, x) := ⟨fun q => by simp at q, fun _ => h, fun q => by simp at q, by simp⟩
theorem zVOK.of2 {n : Nat} {x : Int} (h : 0 < x ∧ x ≤ (n : Int)) : zVOK n (2, x) := ⟨fun q => by simp at q, fun q => by simp at q, fun _ => h, by simp⟩
theorem zVOK.of3 {n : Nat} {x : Int} : zVOK n (3, x) := ⟨fun q => by simp at q, fun q => by simp at q, fun q => by simp at q, by simp⟩
theorem zVOK.of9 {n : Nat} {x : Int} : zVOK n (9, x) := ⟨fun q => by simp at q, fun q => by simp at q, fun q => by simp at q, by simp⟩
theorem so_stuck : zSO l D γ τ L xs k B P i zo_stuck := by
  intro hB hP F hF st lo M X r M' X' h
  cases h
theorem so_iconst {n v : Int} (hp : P[i]? = some pc) (hq : P[i + 1]? = some (pc + 1)) (hd : decode B pc = .ok (.iconst n, 1)) (hv : n = v ∧ zI v) : zSO l D γ τ L xs k B P i (zo_push 0 v) := by
  intro hB hP F hF st lo M X r M' X' h
  refine (hF _ _ _ _ _ _ _ _ _ h).step _ _ _ _ _ _ (zstp_pure (fun h _ => zsOK.mk (.of0 hv.2) h) ?_)
  rintro p e R s m args below meth c H locs cells slots Q ls ρ ⟨hx, hb, -⟩ hL hs hl kk
  rw [zpc_of hP hp]; rw [zpc_of hP hq] at kk
  exact lv_iconst hx (hb.trans hB) hd (by rw [hv.1]) kk
theorem so_bipush {n v : Int} (hp : P[i]? = some pc) (hq : P[i + 1]? = some (pc + 2)) (hd : decode B pc = .ok (.bipush n, 2)) (hv : (Int8.ofInt n).toInt32 = Int32.ofInt v ∧ zI v) : zSO l D γ τ L xs k B P i (zo_push 0 v) := by
  intro hB hP F hF st lo M X r M' X' h
  refine (hF _ _ _ _ _ _ _ _ _ h).step _ _ _ _ _ _ (zstp_pure (fun h _ => zsOK.mk (.of0 hv.2) h) ?_)
  rintro p e R s m args below meth c H locs cells slots Q ls ρ ⟨hx, hb, -⟩ hL hs hl kk
  rw [zpc_of hP hp]; rw [zpc_of hP hq] at kk
  exact lv_bipush hx (hb.trans hB) hd hv.1 kk
theorem so_sipush {n v : Int} (hp : P[i]? = some pc) (hq : P[i + 1]? = some (pc + 3)) (hd : decode B pc = .ok (.sipush n, 3)) (hv : (Int16.ofInt n).toInt32 = Int32.ofInt v ∧ zI v) : zSO l D γ τ L xs k B P i (zo_push 0 v) := by
  intro hB hP F hF st lo M X r M' X' h
  refine (hF _ _ _ _ _ _ _ _ _ h).step _ _ _ _ _ _ (zstp_pure (fun h _ => zsOK.mk (.of0 hv.2) h) ?_)
  rintro p e R s m args below meth c H locs cells slots Q ls ρ ⟨hx, hb, -⟩ hL hs hl kk
  rw [zpc_of hP hp]; rw [zpc_of hP hq] at kk
  exact lv_sipush hx (hb.trans hB) hd hv.1 kk
theorem so_ldc {idx : Nat} {own : String} {v : Int} (hp : P[i]? = some pc) (hq : P[i + 1]? = some (pc + 2)) (hd : decode B pc = .ok (.ldc idx, 2)) (ho : zow k = own) (hw : Cond.constant own idx (Int32.ofInt v) ∈ zT) (hv : zI v) : zSO l D γ τ L xs k B P i (zo_push 0 v) := by
  intro hB hP F hF st lo M X r M' X' h
  refine (hF _ _ _ _ _ _ _ _ _ h).step _ _ _ _ _ _ (zstp_pure (fun h _ => zsOK.mk (.of0 hv) h) ?_)
  rintro p e R s m args below meth c H locs cells slots Q ls ρ ⟨hx, hb, hml, hown, hts, -⟩ hL hs hl kk
  rw [zpc_of hP hp]; rw [zpc_of hP hq] at kk
  rw [ho] at hown
  exact lv_ldc hx (hb.trans hB) hown (hts _ hw) hd kk
theorem so_ldc2 {idx : Nat} {own : String} {v : Int} (hp : P[i]? = some pc) (hq : P[i + 1]? = some (pc + 3)) (hd : decode B pc = .ok (.ldc2_w idx, 3)) (ho : zow k = own) (hw : Cond.constantLong own idx (Int64.ofInt v) ∈ zT) (hv : zL v) : zSO l D γ τ L xs k B P i (zo_push 1 v) := by
  intro hB hP F hF st lo M X r M' X' h
  refine (hF _ _ _ _ _ _ _ _ _ h).step _ _ _ _ _ _ (zstp_pure (fun h _ => zsOK.mk (.of1 hv) h) ?_)
  rintro p e R s m args below meth c H locs cells slots Q ls ρ ⟨hx, hb, hml, hown, hts, -⟩ hL hs hl kk
  rw [zpc_of hP hp]; rw [zpc_of hP hq] at kk
  rw [ho] at hown
  exact lv_ldc2 hx (hb.trans hB) hown (hts _ hw) hd kk
theorem so_lconst {n : Fin 2} {v : Int} (hp : P[i]? = some pc) (hq : P[i + 1]? = some (pc + 1)) (hd : decode B pc = .ok (.lconst n, 1)) (hv : Int64.ofNat (n : Nat) = Int64.ofInt v ∧ zL v) : zSO l D γ τ L xs k B P i (zo_push 1 v) := by
  intro hB hP F hF st lo M X r M' X' h
  refine (hF _ _ _ _ _ _ _ _ _ h).step _ _ _ _ _ _ (zstp_pure (fun h _ => zsOK.mk (.of1 hv.2) h) ?_)
  rintro p e R s m args below meth c H locs cells slots Q ls ρ ⟨hx, hb, -⟩ hL hs hl kk
  rw [zpc_of hP hp]; rw [zpc_of hP hq] at kk
  exact lv_lconst hx (hb.trans hB) hd hv.1 kk
/-- loads: what the operation looks at -/
theorem zld {t a : Nat} {F G : zF} {st lo : List zV} {M : zM} {X : zX} {r : zR} (h : zo_ld t a F G k i st lo M X = some r) : ∃ v : Int, lo[a]? = some (t, v) ∧ F k (i + 1) ((t, v) :: st) lo M X = some r := by
  unfold zo_ld at h
  split at h
  · rename_i t' v hv
    split at h
    · rename_i ht
      have := Nat.eq_of_beq_eq_true ht
      subst this
      exact ⟨v, hv, h⟩
    · cases h
  · cases h
theorem so_ld {t a n : Nat} (ht : t ≠ 9) (hp : P[i]? = some pc) (hq : P[i + 1]? = some (pc + n))
    (hi : ∀ (p : Program) (e : Env) (R : Room) (s : State) (m : MethodId) (args : Array Value) (below : List Frame) (meth : Method) (c : Code) (H : Heap) (locs : List Loc) (cells slots : Nat) (Q : State → Prop) (ls : Array Slot) (ρ : Nat → Nat) (v : Int) (rest : List Value), p.tables.exec = Jvm.exec → c.code = B → ls[a]? = some (.val (zcv τ ρ (t, v))) →
      W p l e R s m args below meth c H locs cells slots Q (F0 m (pc + n) ls (zcv τ ρ (t, v) :: rest)) → W p l e R s m args below meth c H locs cells slots Q (F0 m pc ls rest)) : zSO l D γ τ L xs k B P i (zo_ld t a) := by
  intro hB hP F hF st lo M X r M' X' h
  obtain ⟨v, hv, h⟩ := zld h
  refine (hF _ _ _ _ _ _ _ _ _ h).step _ _ _ _ _ _ (zstp_pure (fun h h2 => zsOK.mk (h2 _ (List.mem_of_getElem? hv)) h) ?_)
  rintro p e R s m args below meth c H locs cells slots Q ls ρ ⟨hx, hb, -⟩ hL hs hl kk
  rw [zpc_of hP hp]; rw [zpc_of hP hq] at kk
  exact hi p e R s m args below meth c H locs cells slots Q ls ρ v _ hx (hb.trans hB) (zLc_at hL hv ht) kk
theorem so_iload_n {n : Fin 4} {a : Nat} (hp : P[i]? = some pc) (hq : P[i + 1]? = some (pc + 1)) (hd : decode B pc = .ok (.iload_n n, 1)) (ha : (n : Nat) = a) : zSO l D γ τ L xs k B P i (zo_ld 0 a) :=
  so_ld (by decide) hp hq fun p e R s m args below meth c H locs cells slots Q ls ρ v rest hx hb hl kk => lv_iload_n hx hb hd ha hl kk
theorem so_iload {a : Nat} (hp : P[i]? = some pc) (hq : P[i + 1]? = some (pc + 2)) (hd : decode B pc = .ok (.iload a, 2)) : zSO l D γ τ L xs k B P i (zo_ld 0 a) :=
  so_ld (by decide) hp hq fun p e R s m args below meth c H locs cells slots Q ls ρ v rest hx hb hl kk => lv_iload hx hb hd hl kk
theorem so_lload_n {n : Fin 4} {a : Nat} (hp : P[i]? = some pc) (hq : P[i + 1]? = some (pc + 1)) (hd : decode B pc = .ok (.lload_n n, 1)) (ha : (n : Nat) = a) : zSO l D γ τ L xs k B P i (zo_ld 1 a) :=
  so_ld (by decide) hp hq fun p e R s m args below meth c H locs cells slots Q ls ρ v rest hx hb hl kk => lv_lload_n hx hb hd ha hl kk
theorem so_lload {a : Nat} (hp : P[i]? = some pc) (hq : P[i + 1]? = some (pc + 2)) (hd : decode B pc = .ok (.lload a, 2)) : zSO l D γ τ L xs k B P i (zo_ld 1 a) :=
  so_ld (by decide) hp hq fun p e R s m args below meth c H locs cells slots Q ls ρ v rest hx hb hl kk => lv_lload hx hb hd hl kk
theorem so_aload_n {n : Fin 4} {a : Nat} (hp : P[i]? = some pc) (hq : P[i + 1]? = some (pc + 1)) (hd : decode B pc = .ok (.aload_n n, 1)) (ha : (n : Nat) = a) : zSO l D γ τ L xs k B P i (zo_ld 2 a) :=
  so_ld (by decide) hp hq fun p e R s m args below meth c H locs cells slots Q ls ρ v rest hx hb hl kk => lv_aload_n hx hb hd ha hl kk
theorem so_aload {a : Nat} (hp : P[i]? = some pc) (hq : P[i + 1]? = some (pc + 2)) (hd : decode B pc = .ok (.aload a, 2)) : zSO l D γ τ L xs k B P i (zo_ld 2 a) :=
  so_ld (by decide) hp hq fun p e R s m args below meth c H locs cells slots Q ls ρ v rest hx hb hl kk => lv_aload hx hb hd hl kk
theorem so_tload_n {n : Fin 4} {a : Nat} (hp : P[i]? = some pc) (hq : P[i + 1]? = some (pc + 1)) (hd : decode B pc = .ok (.aload_n n, 1)) (ha : (n : Nat) = a) : zSO l D γ τ L xs k B P i (zo_ld 3 a) :=
  so_ld (by decide) hp hq fun p e R s m args below meth c H locs cells slots Q ls ρ v rest hx hb hl kk => lv_aload_n hx hb hd ha hl kk
-- stores
theorem zkil_len (lo : List zV) (a : Nat) : (zkil lo a).length = lo.length := by
  unfold zkil
  split
  · rfl
  · split <;> simp
theorem zkil_get {lo : List zV} {a j : Nat} {v : zV} (h : (zkil lo a)[j]? = some v) (h9 : v.1 ≠ 9) : lo[j]? = some v ∧ ¬ (j + 1 = a ∧ v.1 = 1) := by
  unfold zkil at h
  split at h
  · exact ⟨h, by omega⟩
  · rename_i n
    split at h
    · rename_i x hx
      by_cases hj : j = n
      · subst hj
        rw [List.getElem?_set_self (List.getElem?_eq_some_iff.mp hx).1] at h
        cases h
        exact absurd rfl h9
      · rw [List.getElem?_set_ne (Ne.symm hj)] at h
        exact ⟨h, by omega⟩
    · rename_i hx
      refine ⟨h, ?_⟩
      rintro ⟨hj, h1⟩
      have : j = n := by omega
      subst this
      obtain ⟨t, y⟩ := v
      simp only at h1
      subst h1
      exact hx y h
theorem zcv_cat {τ ρ : Nat → Nat} {v : zV} : (zcv τ ρ v).category = if v.1 = 1 then 2 else 1 := by
  obtain ⟨t, x⟩ := v
  match t with
  | 0 => rfl
  | 1 => rfl
  | 2 => rfl
  | 3 => rfl
  | t + 4 => simp [zcv, Value.category]
theorem zst1_has {τ ρ : Nat → Nat} {nL a : Nat} {lo : List zV} {v : zV} {ls : Array Slot} (ha : a < lo.length) (hlen : lo.length = nL)
    (h : lv_has ls nL ((a, zcv τ ρ v) :: (zlvl τ ρ 0 lo).filter (fun q => !(q.1 == a) && !(q.1 + 1 == a && q.2.category == 2)))) : zLc τ ρ nL (zst1 lo a v) ls := by
  refine ⟨by simp [zst1, zkil_len, hlen], h.1, h.2.1, fun q hq => h.2.2 q ?_⟩
  obtain ⟨j, w, h1, h2, rfl⟩ := zlvl_mem.mp hq
  unfold zst1 at h1
  by_cases hj : j = a
  · subst hj
    rw [List.getElem?_set_self (by rw [zkil_len]; exact ha)] at h1
    cases h1
    simp
  · rw [List.getElem?_set_ne (Ne.symm hj)] at h1
    obtain ⟨g1, g2⟩ := zkil_get h1 h2
    refine List.mem_cons_of_mem _ (List.mem_filter.mpr ⟨zlvl_mem.mpr ⟨j, w, g1, h2, rfl⟩, ?_⟩)
    simp only [Nat.zero_add, Bool.and_eq_true, Bool.not_eq_true', beq_eq_false_iff_ne, ne_eq, Bool.and_eq_false_iff, zcv_cat]
    refine ⟨hj, ?_⟩
    by_cases h3 : j + 1 = a
    · right
      have : ¬ w.1 = 1 := fun z => g2 ⟨h3, z⟩
      simp [this]
    · left; exact h3
theorem zst2_has {τ ρ : Nat → Nat} {nL a : Nat} {lo : List zV} {v : zV} {ls : Array Slot} (ha : a + 1 < lo.length) (hlen : lo.length = nL)
    (h : lv_has ls nL ((a, zcv τ ρ v) :: (zlvl τ ρ 0 lo).filter (fun q => !(q.1 == a) && (!(q.1 == a + 1) && !(q.1 + 1 == a && q.2.category == 2))))) : zLc τ ρ nL (zst2 lo a v) ls := by
  refine ⟨by simp [zst2, zkil_len, hlen], h.1, h.2.1, fun q hq => h.2.2 q ?_⟩
  obtain ⟨j, w, h1, h2, rfl⟩ := zlvl_mem.mp hq
  unfold zst2 at h1
  by_cases hj1 : j = a + 1
  · subst hj1
    rw [List.getElem?_set_self (by rw [List.length_set, zkil_len]; exact ha)] at h1
    cases h1
    exact absurd rfl h2
  · rw [List.getElem?_set_ne (Ne.symm hj1)] at h1
    by_cases hj : j = a
    · subst hj
      rw [List.getElem?_set_self (by rw [zkil_len]; omega)] at h1
      cases h1
      simp
    · rw [List.getElem?_set_ne (Ne.symm hj)] at h1
      obtain ⟨g1, g2⟩ := zkil_get h1 h2
      refine List.mem_cons_of_mem _ (List.mem_filter.mpr ⟨zlvl_mem.mpr ⟨j, w, g1, h2, rfl⟩, ?_⟩)
      simp only [Nat.zero_add, Bool.and_eq_true, Bool.not_eq_true', beq_eq_false_iff_ne, ne_eq, Bool.and_eq_false_iff, zcv_cat]
      refine ⟨hj, hj1, ?_⟩
      by_cases h3 : j + 1 = a
      · right
        have : ¬ w.1 = 1 := fun z => g2 ⟨h3, z⟩
        simp [this]
      · left; exact h3
theorem zsOK.st1 {n a : Nat} {lo : List zV} {v : zV} (h : zsOK n lo) (hv : zVOK n v) : zsOK n (zst1 lo a v) := by
  have h1 : zsOK n (zkil lo a) := by
    intro w hw
    unfold zkil at hw
    split at hw
    · exact h w hw
    · split at hw
      · rcases List.mem_or_eq_of_mem_set hw with q | rfl
        · exact h w q
        · exact .of9
      · exact h w hw
  intro w hw
  rcases List.mem_or_eq_of_mem_set hw with q | rfl
  · exact h1 w q
  · exact hv
theorem zsOK.st2 {n a : Nat} {lo : List zV} {v : zV} (h : zsOK n lo) (hv : zVOK n v) : zsOK n (zst2 lo a v) := by
  intro w hw
  rcases List.mem_or_eq_of_mem_set hw with q | rfl
  · exact (h.st1 (a := a) hv) w q
  · exact .of9
/-- a step that changes a local -/
theorem zstp_loc {st st1 lo lo1 : List zV} {M : zM} {X : zX} {i1 : Nat} (hok : zsOK X.1.length st → zsOK X.1.length lo → zsOK X.1.length st1 ∧ zsOK X.1.length lo1)
    (h : ∀ (p : Program) (e : Env) (R : Room) (s : State) (m : MethodId) (args : Array Value) (below : List Frame) (meth : Method) (c : Code) (H : Heap) (locs : List Loc) (cells slots : Nat) (Q : State → Prop) (ls : Array Slot) (ρ : Nat → Nat),
      zFr k p R s m args meth c → zLc τ ρ (zml k) lo ls → zsOK X.1.length st → zsOK X.1.length lo → (∀ ls1, zLc τ ρ (zml k) lo1 ls1 → W p l e R s m args below meth c H locs cells slots Q (F0 m (zpc k i1) ls1 (st1.map (zcv τ ρ)))) → W p l e R s m args below meth c H locs cells slots Q (F0 m (zpc k i) ls (st.map (zcv τ ρ)))) :
    zStp l D γ τ L xs k i st lo M X i1 st1 lo1 M := by
  intro p e R s m args below meth c A hC ρ H locs ls hW hS hL hs hl cells slots Q kk
  exact h p e R s m args below meth c H locs cells slots Q ls ρ hC.1 hL hs hl (fun ls1 h1 => kk H locs ls1 hW hS h1 (hok hs hl).1 (hok hs hl).2)
theorem zstv {t a : Nat} {F G : zF} {st lo : List zV} {M : zM} {X : zX} {r : zR} (h : zo_st t a F G k i st lo M X = some r) : ∃ (v : Int) (st' : List zV), st = (t, v) :: st' ∧ a < lo.length ∧ F k (i + 1) st' (zst1 lo a (t, v)) M X = some r := by
  unfold zo_st at h
  split at h
  · rename_i t' v st'
    split at h
    · rename_i ht
      rw [Bool.and_eq_true] at ht
      have := Nat.eq_of_beq_eq_true ht.1
      subst this
      exact ⟨v, st', rfl, by have := ht.2; simpa [Nat.blt_eq] using this, h⟩
    · cases h
  · cases h
theorem so_st {t a n : Nat} (hp : P[i]? = some pc) (hq : P[i + 1]? = some (pc + n))
    (hi : ∀ (p : Program) (e : Env) (R : Room) (s : State) (m : MethodId) (args : Array Value) (below : List Frame) (meth : Method) (c : Code) (H : Heap) (locs : List Loc) (cells slots : Nat) (Q : State → Prop) (ls : Array Slot) (ρ : Nat → Nat) (v : Int) (rest : List Value) (nL : Nat) (lv : List (Nat × Value)), p.tables.exec = Jvm.exec → c.code = B → lv_has ls nL lv → a < nL →
      (∀ ls', lv_has ls' nL ((a, zcv τ ρ (t, v)) :: lv.filter (fun q => !(q.1 == a) && !(q.1 + 1 == a && q.2.category == 2))) → W p l e R s m args below meth c H locs cells slots Q (F0 m (pc + n) ls' rest)) → W p l e R s m args below meth c H locs cells slots Q (F0 m pc ls (zcv τ ρ (t, v) :: rest))) : zSO l D γ τ L xs k B P i (zo_st t a) := by
  intro hB hP F hF st lo M X r M' X' h
  obtain ⟨v, st', rfl, ha, h⟩ := zstv h
  refine (hF _ _ _ _ _ _ _ _ _ h).step _ _ _ _ _ _ (zstp_loc (fun h h2 => ⟨h.cons.2, h2.st1 h.cons.1⟩) ?_)
  rintro p e R s m args below meth c H locs cells slots Q ls ρ ⟨hx, hb, -⟩ hL hs hl kk
  rw [zpc_of hP hp]; rw [zpc_of hP hq] at kk
  exact hi p e R s m args below meth c H locs cells slots Q ls ρ v _ _ _ hx (hb.trans hB) hL.2 (by rw [← hL.1]; exact ha) (fun ls' h' => kk ls' (zst1_has ha hL.1 h'))
theorem so_istore_n {n : Fin 4} {a : Nat} (hp : P[i]? = some pc) (hq : P[i + 1]? = some (pc + 1)) (hd : decode B pc = .ok (.istore_n n, 1)) (ha : (n : Nat) = a) : zSO l D γ τ L xs k B P i (zo_st 0 a) :=
  so_st hp hq fun p e R s m args below meth c H locs cells slots Q ls ρ v rest nL lv hx hb hl hn kk => lv_istore_n hx hb hd ha hl hn rfl kk
theorem so_istore {a : Nat} (hp : P[i]? = some pc) (hq : P[i + 1]? = some (pc + 2)) (hd : decode B pc = .ok (.istore a, 2)) : zSO l D γ τ L xs k B P i (zo_st 0 a) :=
  so_st hp hq fun p e R s m args below meth c H locs cells slots Q ls ρ v rest nL lv hx hb hl hn kk => lv_istore hx hb hd hl hn rfl kk
theorem so_astore_n {n : Fin 4} {a : Nat} (hp : P[i]? = some pc) (hq : P[i + 1]? = some (pc + 1)) (hd : decode B pc = .ok (.astore_n n, 1)) (ha : (n : Nat) = a) : zSO l D γ τ L xs k B P i (zo_st 2 a) :=
  so_st hp hq fun p e R s m args below meth c H locs cells slots Q ls ρ v rest nL lv hx hb hl hn kk => lv_astore_n hx hb hd ha hl hn rfl kk
theorem so_astore {a : Nat} (hp : P[i]? = some pc) (hq : P[i + 1]? = some (pc + 2)) (hd : decode B pc = .ok (.astore a, 2)) : zSO l D γ τ L xs k B P i (zo_st 2 a) :=
  so_st hp hq fun p e R s m args below meth c H locs cells slots Q ls ρ v rest nL lv hx hb hl hn kk => lv_astore hx hb hd hl hn rfl kk
theorem so_lst {a n : Nat} (hp : P[i]? = some pc) (hq : P[i + 1]? = some (pc + n))
    (hi : ∀ (p : Program) (e : Env) (R : Room) (s : State) (m : MethodId) (args : Array Value) (below : List Frame) (meth : Method) (c : Code) (H : Heap) (locs : List Loc) (cells slots : Nat) (Q : State → Prop) (ls : Array Slot) (v : Int64) (rest : List Value) (nL : Nat) (lv : List (Nat × Value)), p.tables.exec = Jvm.exec → c.code = B → lv_has ls nL lv → a + 1 < nL →
      (∀ ls', lv_has ls' nL ((a, .long v) :: lv.filter (fun q => !(q.1 == a) && (!(q.1 == a + 1) && !(q.1 + 1 == a && q.2.category == 2)))) → W p l e R s m args below meth c H locs cells slots Q (F0 m (pc + n) ls' rest)) → W p l e R s m args below meth c H locs cells slots Q (F0 m pc ls (.long v :: rest))) : zSO l D γ τ L xs k B P i (zo_lst a) := by
  intro hB hP F hF st lo M X r M' X' h
  unfold zo_lst at h
  split at h
  · rename_i v st'
    split at h
    · rename_i ht
      have ha : a + 1 < lo.length := by simpa [Nat.blt_eq] using ht
      refine (hF _ _ _ _ _ _ _ _ _ h).step _ _ _ _ _ _ (zstp_loc (fun h h2 => ⟨h.cons.2, h2.st2 h.cons.1⟩) ?_)
      rintro p e R s m args below meth c H locs cells slots Q ls ρ ⟨hx, hb, -⟩ hL hs hl kk
      rw [zpc_of hP hp]; rw [zpc_of hP hq] at kk
      exact hi p e R s m args below meth c H locs cells slots Q ls _ _ _ _ hx (hb.trans hB) hL.2 (by rw [← hL.1]; exact ha) (fun ls' h' => kk ls' (zst2_has ha hL.1 h'))
    · cases h
  · cases h
theorem so_lstore_n {n : Fin 4} {a : Nat} (hp : P[i]? = some pc) (hq : P[i + 1]? = some (pc + 1)) (hd : decode B pc = .ok (.lstore_n n, 1)) (ha : (n : Nat) = a) : zSO l D γ τ L xs k B P i (zo_lst a) :=
  so_lst hp hq fun p e R s m args below meth c H locs cells slots Q ls v rest nL lv hx hb hl hn kk => lv_lstore_n hx hb hd ha hl hn rfl kk
theorem so_lstore {a : Nat} (hp : P[i]? = some pc) (hq : P[i + 1]? = some (pc + 2)) (hd : decode B pc = .ok (.lstore a, 2)) : zSO l D γ τ L xs k B P i (zo_lst a) :=
  so_lst hp hq fun p e R s m args below meth c H locs cells slots Q ls v rest nL lv hx hb hl hn kk => lv_lstore hx hb hd hl hn rfl kk
theorem so_iinc {a : Nat} {n : Int} (hp : P[i]? = some pc) (hq : P[i + 1]? = some (pc + 3)) (hd : decode B pc = .ok (.iinc a n, 3)) : zSO l D γ τ L xs k B P i (zo_iinc a n) := by
  intro hB hP F hF st lo M X r M' X' h
  unfold zo_iinc at h
  split at h
  · rename_i v hv
    obtain ⟨hz, h⟩ := zg_some h
    have ha : a < lo.length := (List.getElem?_eq_some_iff.mp hv).1
    refine (hF _ _ _ _ _ _ _ _ _ h).step _ _ _ _ _ _ (zstp_loc (fun h h2 => ⟨h, h2.st1 (.of0 hz)⟩) ?_)
    rintro p e R s m args below meth c H locs cells slots Q ls ρ ⟨hx, hb, -⟩ hL hs hl kk
    rw [zpc_of hP hp]; rw [zpc_of hP hq] at kk
    obtain ⟨kq, hkq⟩ := List.getElem?_of_mem (zlvl_mem.mpr ⟨a, (0, v), hv, by simp, rfl⟩ : (0 + a, zcv τ ρ (0, v)) ∈ zlvl τ ρ 0 lo)
    rw [Nat.zero_add] at hkq
    exact lv_iinc (v := Int32.ofInt (v + n)) hx (hb.trans hB) hd hL.2 hkq (by rw [Int32.ofInt_add]) (by rw [← hL.1]; exact ha) rfl (fun ls' h' => kk ls' (zst1_has (v := (0, v + n)) ha hL.1 h'))
  · cases h
end SO1
