/-! WHAT STAYS: words, tables, classes -/
def zNw : List Cond := [(Cond.methodLinkNest "CordCart$Cart" (21 : Nat) ({ cls := "CordCart$Cord", name := "<init>", desc := "()V" } : MethodName) "CordCart"),
  (Cond.methodLinkNest "CordCart" (18 : Nat) ({ cls := "CordCart$Pose", name := "<init>", desc := "()V" } : MethodName) "CordCart"),
  (Cond.methodLinkNest "CordCart" (25 : Nat) ({ cls := "CordCart$Floor", name := "<init>", desc := "()V" } : MethodName) "CordCart"),
  (Cond.methodLinkNest "CordCart$Floor" (21 : Nat) ({ cls := "CordCart$Line", name := "<init>", desc := "()V" } : MethodName) "CordCart"),
  (Cond.methodLinkNest "CordCart" (32 : Nat) ({ cls := "CordCart$Weight", name := "<init>", desc := "()V" } : MethodName) "CordCart"),
  (Cond.methodLinkNest "CordCart$Run" (11 : Nat) ({ cls := "CordCart$Pose", name := "<init>", desc := "()V" } : MethodName) "CordCart"),
  (Cond.methodLinkNest "CordCart" (48 : Nat) ({ cls := "CordCart$Show", name := "<init>", desc := "()V" } : MethodName) "CordCart"),
  (Cond.methodLinkNest "CordCart$Show" (11 : Nat) ({ cls := "CordCart$Pose", name := "<init>", desc := "()V" } : MethodName) "CordCart"),
  (Cond.methodLinkNest "CordCart$Wish" (26 : Nat) ({ cls := "CordCart$Cord", name := "<init>", desc := "()V" } : MethodName) "CordCart"),
  (Cond.methodLinkNest "CordCart" (77 : Nat) ({ cls := "CordCart$Tape", name := "<init>", desc := "()V" } : MethodName) "CordCart"),
  (Cond.methodLinkNest "CordCart$Cart" (48 : Nat) ({ cls := "CordCart", name := "isIn", desc := "(III)Z" } : MethodName) "CordCart"),
  (Cond.methodLinkNest "CordCart$Floor" (33 : Nat) ({ cls := "CordCart", name := "isCell", desc := "(II)Z" } : MethodName) "CordCart"),
  (Cond.fieldLinkNest "CordCart$Pose" (36 : Nat) "CordCart" "HALF_X" "[I" "CordCart"),
  (Cond.fieldLinkNest "CordCart$Pose" (40 : Nat) "CordCart" "HALF_Y" "[I" "CordCart"),
  (Cond.fieldLinkNest "CordCart$Floor" (69 : Nat) "CordCart" "AHEAD_X" "[I" "CordCart"),
  (Cond.fieldLinkNest "CordCart$Floor" (72 : Nat) "CordCart" "AHEAD_Y" "[I" "CordCart"),
  (Cond.fieldLinkNest "CordCart$Wish" (88 : Nat) "CordCart" "AHEAD_X" "[I" "CordCart"),
  (Cond.fieldLinkNest "CordCart$Wish" (92 : Nat) "CordCart" "AHEAD_Y" "[I" "CordCart"),
  (Cond.castable "java/lang/IllegalStateException" "java/lang/IllegalStateException"),
  (Cond.declares ({ cls := "java/lang/RuntimeException", name := "<init>", desc := "()V" } : MethodName)),
  (Cond.declares ({ cls := "java/lang/RuntimeException", name := "<init>", desc := "(Ljava/lang/String;)V" } : MethodName)),
  (Cond.declares ({ cls := "java/lang/Exception", name := "<init>", desc := "()V" } : MethodName)),
  (Cond.declares ({ cls := "java/lang/Exception", name := "<init>", desc := "(Ljava/lang/String;)V" } : MethodName)),
  (Cond.declares ({ cls := "java/lang/Throwable", name := "<init>", desc := "()V" } : MethodName)),
  (Cond.declares ({ cls := "java/lang/Throwable", name := "<init>", desc := "(Ljava/lang/String;)V" } : MethodName)),
  (Cond.castable "java/lang/IllegalArgumentException" "java/lang/IllegalArgumentException")]
theorem zNw_warm : ∀ w ∈ zNw, ∀ (s U : State), s.WarmedH U.vm → va_Nw w s → va_Nw w U := List.forall_mem_cons.mpr ⟨fun _ _ hW h => va_Nw.warmM hW h, List.forall_mem_cons.mpr ⟨fun _ _ hW h => va_Nw.warmM hW h, List.forall_mem_cons.mpr ⟨fun _ _ hW h => va_Nw.warmM hW h, List.forall_mem_cons.mpr ⟨fun _ _ hW h => va_Nw.warmM hW h, List.forall_mem_cons.mpr ⟨fun _ _ hW h => va_Nw.warmM hW h, List.forall_mem_cons.mpr ⟨fun _ _ hW h => va_Nw.warmM hW h, List.forall_mem_cons.mpr ⟨fun _ _ hW h => va_Nw.warmM hW h, List.forall_mem_cons.mpr ⟨fun _ _ hW h => va_Nw.warmM hW h, List.forall_mem_cons.mpr ⟨fun _ _ hW h => va_Nw.warmM hW h, List.forall_mem_cons.mpr ⟨fun _ _ hW h => va_Nw.warmM hW h, List.forall_mem_cons.mpr ⟨fun _ _ hW h => va_Nw.warmM hW h, List.forall_mem_cons.mpr ⟨fun _ _ hW h => va_Nw.warmM hW h, List.forall_mem_cons.mpr ⟨fun _ _ hW h => va_Nw.warmF hW h, List.forall_mem_cons.mpr ⟨fun _ _ hW h => va_Nw.warmF hW h, List.forall_mem_cons.mpr ⟨fun _ _ hW h => va_Nw.warmF hW h, List.forall_mem_cons.mpr ⟨fun _ _ hW h => va_Nw.warmF hW h, List.forall_mem_cons.mpr ⟨fun _ _ hW h => va_Nw.warmF hW h, List.forall_mem_cons.mpr ⟨fun _ _ hW h => va_Nw.warmF hW h, List.forall_mem_cons.mpr ⟨fun _ _ hW h => va_Nw.warmC hW h, List.forall_mem_cons.mpr ⟨fun _ _ hW h => va_Nw.warmD hW h, List.forall_mem_cons.mpr ⟨fun _ _ hW h => va_Nw.warmD hW h, List.forall_mem_cons.mpr ⟨fun _ _ hW h => va_Nw.warmD hW h, List.forall_mem_cons.mpr ⟨fun _ _ hW h => va_Nw.warmD hW h, List.forall_mem_cons.mpr ⟨fun _ _ hW h => va_Nw.warmD hW h, List.forall_mem_cons.mpr ⟨fun _ _ hW h => va_Nw.warmD hW h, List.forall_mem_cons.mpr ⟨fun _ _ hW h => va_Nw.warmC hW h, fun _ h => absurd h List.not_mem_nil⟩⟩⟩⟩⟩⟩⟩⟩⟩⟩⟩⟩⟩⟩⟩⟩⟩⟩⟩⟩⟩⟩⟩⟩⟩⟩
theorem zNw_same : ∀ w ∈ zNw, ∀ (u U : State), u.vm = U.vm → va_Nw w u → va_Nw w U := List.forall_mem_cons.mpr ⟨fun _ _ hv h => va_Nw.same rfl hv h, List.forall_mem_cons.mpr ⟨fun _ _ hv h => va_Nw.same rfl hv h, List.forall_mem_cons.mpr ⟨fun _ _ hv h => va_Nw.same rfl hv h, List.forall_mem_cons.mpr ⟨fun _ _ hv h => va_Nw.same rfl hv h, List.forall_mem_cons.mpr ⟨fun _ _ hv h => va_Nw.same rfl hv h, List.forall_mem_cons.mpr ⟨fun _ _ hv h => va_Nw.same rfl hv h, List.forall_mem_cons.mpr ⟨fun _ _ hv h => va_Nw.same rfl hv h, List.forall_mem_cons.mpr ⟨fun _ _ hv h => va_Nw.same rfl hv h, List.forall_mem_cons.mpr ⟨fun _ _ hv h => va_Nw.same rfl hv h, List.forall_mem_cons.mpr ⟨fun _ _ hv h => va_Nw.same rfl hv h, List.forall_mem_cons.mpr ⟨fun _ _ hv h => va_Nw.same rfl hv h, List.forall_mem_cons.mpr ⟨fun _ _ hv h => va_Nw.same rfl hv h, List.forall_mem_cons.mpr ⟨fun _ _ hv h => va_Nw.same rfl hv h, List.forall_mem_cons.mpr ⟨fun _ _ hv h => va_Nw.same rfl hv h, List.forall_mem_cons.mpr ⟨fun _ _ hv h => va_Nw.same rfl hv h, List.forall_mem_cons.mpr ⟨fun _ _ hv h => va_Nw.same rfl hv h, List.forall_mem_cons.mpr ⟨fun _ _ hv h => va_Nw.same rfl hv h, List.forall_mem_cons.mpr ⟨fun _ _ hv h => va_Nw.same rfl hv h, List.forall_mem_cons.mpr ⟨fun _ _ hv h => va_Nw.same rfl hv h, List.forall_mem_cons.mpr ⟨fun _ _ hv h => va_Nw.same rfl hv h, List.forall_mem_cons.mpr ⟨fun _ _ hv h => va_Nw.same rfl hv h, List.forall_mem_cons.mpr ⟨fun _ _ hv h => va_Nw.same rfl hv h, List.forall_mem_cons.mpr ⟨fun _ _ hv h => va_Nw.same rfl hv h, List.forall_mem_cons.mpr ⟨fun _ _ hv h => va_Nw.same rfl hv h, List.forall_mem_cons.mpr ⟨fun _ _ hv h => va_Nw.same rfl hv h, List.forall_mem_cons.mpr ⟨fun _ _ hv h => va_Nw.same rfl hv h, fun _ h => absurd h List.not_mem_nil⟩⟩⟩⟩⟩⟩⟩⟩⟩⟩⟩⟩⟩⟩⟩⟩⟩⟩⟩⟩⟩⟩⟩⟩⟩⟩
def zStr : List (String × Nat × String) := [("CordCart$Cart", 59, "the cart is not whole"), ("CordCart", 186, "no such part of a pose"), ("CordCart", 197, "no show is kept"), ("CordCart", 218, "no such part of an act"), ("CordCart", 220, "no such act is noted"), ("CordCart", 235, "no such part of a pose, or no such unit"), ("CordCart", 237, "the cords are not whole"), ("CordCart", 328, "no such tape"), ("CordCart", 330, "no row, or no such place in it")]
theorem zAOA_moved {ty : FieldType} {u U : State} (hvm : u.vm.Alike U.vm) (h : va_AOA ty u) : va_AOA ty U := by
  unfold va_AOA Cond.before Cond.holds at h ⊢
  simp only [Cond.value, beq_iff_eq] at h ⊢
  cases hc : u.vm.findClass (FieldType.array ty).toString with
  | none => simp [hc] at h
  | some comp =>
    simp only [hc, Option.bind_some, Option.bind_eq_some_iff, Option.map_eq_some_iff] at h
    obtain ⟨c, hi, k, hk, hb⟩ := h
    obtain ⟨k', hk', he⟩ := hvm.2.2 _ _ hk
    have f1 : U.vm.findClass (FieldType.array ty).toString = some comp := by rw [hvm.findClass]; exact hc
    have hi' : (U.vm.classes.findIdx? fun (x : Class) => match x.kind with | .array component _ => component == comp | _ => false) = some c := by
      refine (va_idx_bare U.vm comp).symm.trans ?_
      first | rw [hvm.bare_eq] | rw [← hvm.bare_eq]
      exact (va_idx_bare u.vm comp).trans hi
    simp only [f1, Option.bind_some, Option.bind_eq_some_iff, Option.map_eq_some_iff]
    refine ⟨c, hi', k', hk', ?_⟩
    rw [he, hvm.findClass]
    exact hb
def zIAE : String := "java/lang/IllegalArgumentException"
def zISE : String := "java/lang/IllegalStateException"
def zEn (e : Nat) : String := if e = 1 then zIAE else zISE
def zEx (A : Nat → Prop) (U : State) (H : Heap) : Prop := vx_Zq Bundle.tN "UNASSIGNED_STACK" Bundle.steD A U H ∧ vx_Zq Bundle.tN "SUPPRESSED_SENTINEL" Bundle.listD A U H ∧ (∀ q ∈ zStr, ∃ sa : Nat, vk_R q.1 q.2.1 q.2.2 sa U) ∧ va_Nc zISE zIAE U
def zTab (n : String) (t N : Nat) (f : List Int) (A : Nat → Prop) (U : State) (H : Heap) : Prop := va_Z "CordCart" n "[I" (.ref t) A U H ∧ va_T .int t N (fun j => .int (Int32.ofInt (f.getD j 0))) A U H
def zPer (D : va_G) (γ : Nat → ClassId) (τ : Nat → Nat) (L : Nat) (xs : Nat → Int32) (A : Nat → Prop) (U : State) (H : Heap) : Prop :=
  va_K D vwCl (ztl γ) U ∧ (zTab "HALF_X" (τ 0) 16 zHX A U H ∧ zTab "HALF_Y" (τ 1) 16 zHY A U H ∧ zTab "AHEAD_X" (τ 2) 4 zAX A U H ∧ zTab "AHEAD_Y" (τ 3) 4 zAY A U H) ∧
  (va_T .int (τ 4) L (fun j => .int (xs j)) A U H ∧ L ≤ 3072) ∧ (∀ w ∈ zNw, va_Nw w U) ∧ (va_AO "CordCart$Cord" U ∧ va_AO "CordCart$Tape" U ∧ va_AOA .int U) ∧ zEx A U H
theorem zTab.moved {n : String} {t N : Nat} {f : List Int} {A : Nat → Prop} {u U : State} {H : Heap} (hvm : u.vm.Alike U.vm) (h : zTab n t N f A u H) : zTab n t N f A U H := ⟨va_Z.moved hvm h.1, va_T.moved hvm h.2⟩
theorem zTab.kept {n : String} {t N : Nat} {f : List Int} {A : Nat → Prop} {U : State} {H H1 : Heap} (h : zTab n t N f A U H) (hq : ∀ a : Nat, a < H.size → ¬ A a → H1[a]? = H[a]?) : zTab n t N f A U H1 := ⟨h.1.kept hq, h.2.kept hq⟩
theorem zTab.narrow {n : String} {t N : Nat} {f : List Int} {A B : Nat → Prop} {U : State} {H : Heap} (h : zTab n t N f A U H) (hAB : ∀ q, B q → A q) : zTab n t N f B U H := ⟨h.1.narrow hAB, h.2.narrow hAB⟩
section ZP
variable {D : va_G} {γ : Nat → ClassId} {τ : Nat → Nat} {L : Nat} {xs : Nat → Int32} {A B : Nat → Prop} {u U s : State} {H H1 : Heap}
theorem zPer.warm (hW : s.WarmedH U.vm) (h : zPer D γ τ L xs A s H) : zPer D γ τ L xs A U H := by
  obtain ⟨h1, ⟨t1, t2, t3, t4⟩, ⟨h3, h3'⟩, h4, ⟨h5, h6, h7⟩, h8, h9, h10, h11⟩ := h
  have hv := hW.alike
  exact ⟨va_K.moved hv h1, ⟨t1.moved hv, t2.moved hv, t3.moved hv, t4.moved hv⟩, ⟨va_T.moved hv h3, h3'⟩, fun w hw => zNw_warm w hw s U hW (h4 w hw), ⟨va_AO.moved hv h5, va_AO.moved hv h6, zAOA_moved hv h7⟩, vx_Zq.moved hv h8, vx_Zq.moved hv h9, fun q hq => (h10 q hq).imp fun _ z => vk_R.warm hW z, va_Nc.moved hv h11⟩
theorem zPer.same (hv : u.vm = U.vm) (h : zPer D γ τ L xs A u H) : zPer D γ τ L xs A U H := by
  obtain ⟨h1, ⟨t1, t2, t3, t4⟩, ⟨h3, h3'⟩, h4, ⟨h5, h6, h7⟩, h8, h9, h10, h11⟩ := h
  have ha : u.vm.Alike U.vm := hv ▸ Vm.Alike.refl u.vm
  exact ⟨va_K.moved ha h1, ⟨t1.moved ha, t2.moved ha, t3.moved ha, t4.moved ha⟩, ⟨va_T.moved ha h3, h3'⟩, fun w hw => zNw_same w hw u U hv (h4 w hw), ⟨va_AO.moved ha h5, va_AO.moved ha h6, zAOA_moved ha h7⟩, vx_Zq.moved ha h8, vx_Zq.moved ha h9, fun q hq => (h10 q hq).imp fun _ z => vk_R.same hv.symm z, va_Nc.moved ha h11⟩
theorem zPer.kept (h : zPer D γ τ L xs A U H) (hq : ∀ a : Nat, a < H.size → ¬ A a → H1[a]? = H[a]?) : zPer D γ τ L xs A U H1 := by
  obtain ⟨h1, ⟨t1, t2, t3, t4⟩, ⟨h3, h3'⟩, h4, h5, h8, h9, h10, h11⟩ := h
  exact ⟨h1, ⟨t1.kept hq, t2.kept hq, t3.kept hq, t4.kept hq⟩, ⟨h3.kept hq, h3'⟩, h4, h5, h8.kept hq, h9.kept hq, h10, h11⟩
theorem zPer.narrow (h : zPer D γ τ L xs A U H) (hAB : ∀ q, B q → A q) : zPer D γ τ L xs B U H := by
  obtain ⟨h1, ⟨t1, t2, t3, t4⟩, ⟨h3, h3'⟩, h4, h5, h8, h9, h10, h11⟩ := h
  exact ⟨h1, ⟨t1.narrow hAB, t2.narrow hAB, t3.narrow hAB, t4.narrow hAB⟩, ⟨h3.narrow hAB, h3'⟩, h4, h5, h8.narrow hAB, h9.narrow hAB, h10, h11⟩
end ZP
/-! frames and goals -/
def zFr (k : Nat) (p : Program) (R : Room) (s : State) (m : MethodId) (args : Array Value) (meth : Method) (c : Code) : Prop :=
  p.tables.exec = Jvm.exec ∧ c.code = zb k ∧ c.maxLocals = zml k ∧ s.vm.findClass (zow k) = some m.cls ∧ (∀ w ∈ zT, w.before args s = true) ∧ zlv k ≤ R.frames ∧ zlc k ≤ R.locals ∧ ((zy k).name = "<init>" → meth.name = "<init>") ∧ (zhh k ≠ [] → c.exceptionTable.toList = tableOf (zhh k))
section ZG
variable (l : Launch) (D : va_G) (γ : Nat → ClassId) (τ : Nat → Nat) (L : Nat) (xs : Nat → Int32)
def zCtx (k : Nat) (p : Program) (R : Room) (s : State) (m : MethodId) (args : Array Value) (meth : Method) (c : Code) (A : Nat → Prop) : Prop :=
  zFr k p R s m args meth c ∧ zPer D γ τ L xs A s s.heap ∧ ∀ q : Nat, s.heap.size ≤ q → A q
def zThr (x k i : Nat) : Prop := ∀ (p : Program) (e : Env) (R : Room) (s : State) (m : MethodId) (args : Array Value) (below : List Frame) (meth : Method) (c : Code) (A : Nat → Prop) (H : Heap) (locs : List Loc) (cells slots mc ms : Nat) (ls : Array Slot) (Qc : Array Value → State → Outcome → State → Prop) (XC : String → State → State → Prop) (free : Addr → Prop),
  zCtx D γ τ L xs k p R s m args meth c A → l.stackTraces = false → (∀ x ∈ c.exceptionTable.toList, False) → meth.locks = false → va_S A s.heap H locs → ls.size = c.maxLocals →
  (∀ t : State, s.vm.Alike t.vm → H.size ≤ t.heap.size → (∀ q : Nat, q < H.size → t.heap[q]? = H[q]?) → XC (zEn x) s t) → (∀ z ∈ locs, free z.base) → cells + 1 ≤ mc → slots + 6 ≤ ms → cells + 1 ≤ R.cells → slots + 6 ≤ R.slots →
  W p l e R s m args below meth c H locs cells slots (vx_MQ below Qc XC args s mc ms free) (F0 m (zpc k i) ls [])
/-- where a method ends with r -/
def zEnd (k : Nat) (r : zV) (i : Nat) : Prop := match r with
  | (0, v) => decode (zb k) (zpc k i) = .ok (.ireturn, 1) ∧ zI v ∧ (zrt k = some .int ∨ (zrt k = some .boolean ∧ (v = 0 ∨ v = 1)))
  | (1, v) => decode (zb k) (zpc k i) = .ok (.lreturn, 1) ∧ zL v ∧ zrt k = some .long
  | (9, _) => decode (zb k) (zpc k i) = .ok (.return_, 1) ∧ zrt k = none
  | (8, v) => ∃ x : Nat, (x = 1 ∨ x = 2) ∧ i < 1000 ∧ v = 1000 * (x : Int) + i ∧ zThr l D γ τ L xs x k i
  | _ => False
def zes (τ ρ : Nat → Nat) (r : zV) : List Value := if r.1 < 8 then [zcv τ ρ r] else []
/-- from here, with this abstract state, the method comes to an end with r -/
def zGoal (k i : Nat) (st lo : List zV) (M : zM) (X : zX) (r : zV) (M' : zM) (X' : zX) : Prop :=
  (∃ t, X'.1 = X.1 ++ t) ∧ X'.2.1 ≤ X.2.1 ∧ X'.2.2 ≤ X.2.2 ∧
  ∀ (p : Program) (e : Env) (R : Room) (s : State) (m : MethodId) (args : Array Value) (below : List Frame) (meth : Method) (c : Code) (A : Nat → Prop), zCtx D γ τ L xs k p R s m args meth c A →
  ∀ (ρ : Nat → Nat) (H : Heap) (locs : List Loc) (ls : Array Slot), zWd D γ L xs A ρ X.1 M H → va_S A s.heap H locs → zLc τ ρ (zml k) lo ls → zsOK X.1.length st → zsOK X.1.length lo →
  ∀ (cells slots : Nat) (Q : State → Prop), cells + (X.2.1 - X'.2.1) ≤ R.cells → slots + (X.2.2 - X'.2.2) ≤ R.slots →
  (∀ (i' : Nat) (ρ' : Nat → Nat) (H' : Heap) (locs' : List Loc) (ls' : Array Slot) (cs ss : Nat), zEnd l D γ τ L xs k r i' → (∀ q, q < X.1.length → ρ' q = ρ q) → zWd D γ L xs A ρ' X'.1 M' H' → va_S A s.heap H' locs' → ls'.size = zml k →
    (if r.1 = 8 then cs + 1 = cells + (X.2.1 - X'.2.1) ∧ ss + 6 = slots + (X.2.2 - X'.2.2) else cs = cells + (X.2.1 - X'.2.1) ∧ ss = slots + (X.2.2 - X'.2.2)) →
    W p l e R s m args below meth c H' locs' cs ss Q (F0 m (zpc k i') ls' (zes τ ρ' r))) →
  W p l e R s m args below meth c H locs cells slots Q (F0 m (zpc k i) ls (st.map (zcv τ ρ)))
/-- a step that makes nothing new -/
def zStp (k i : Nat) (st lo : List zV) (M : zM) (X : zX) (i1 : Nat) (st1 lo1 : List zV) (M1 : zM) : Prop :=
  ∀ (p : Program) (e : Env) (R : Room) (s : State) (m : MethodId) (args : Array Value) (below : List Frame) (meth : Method) (c : Code) (A : Nat → Prop), zCtx D γ τ L xs k p R s m args meth c A →
  ∀ (ρ : Nat → Nat) (H : Heap) (locs : List Loc) (ls : Array Slot), zWd D γ L xs A ρ X.1 M H → va_S A s.heap H locs → zLc τ ρ (zml k) lo ls → zsOK X.1.length st → zsOK X.1.length lo →
  ∀ (cells slots : Nat) (Q : State → Prop),
  (∀ (H1 : Heap) (locs1 : List Loc) (ls1 : Array Slot), zWd D γ L xs A ρ X.1 M1 H1 → va_S A s.heap H1 locs1 → zLc τ ρ (zml k) lo1 ls1 → zsOK X.1.length st1 → zsOK X.1.length lo1 → W p l e R s m args below meth c H1 locs1 cells slots Q (F0 m (zpc k i1) ls1 (st1.map (zcv τ ρ)))) →
  W p l e R s m args below meth c H locs cells slots Q (F0 m (zpc k i) ls (st.map (zcv τ ρ)))
theorem zGoal.step {k i : Nat} {st lo : List zV} {M : zM} {X : zX} {i1 : Nat} {st1 lo1 : List zV} {M1 : zM} {r : zV} {M' : zM} {X' : zX} (g : zGoal l D γ τ L xs k i1 st1 lo1 M1 X r M' X') (h : zStp l D γ τ L xs k i st lo M X i1 st1 lo1 M1) : zGoal l D γ τ L xs k i st lo M X r M' X' := by
  obtain ⟨g1, g2, g3, g4⟩ := g
  refine ⟨g1, g2, g3, ?_⟩
  intro p e R s m args below meth c A hC ρ H locs ls hW hS hL hs hl cells slots Q hc hss hend
  exact h p e R s m args below meth c A hC ρ H locs ls hW hS hL hs hl cells slots Q fun H1 locs1 ls1 hW1 hS1 hL1 hs1 hl1 => g4 p e R s m args below meth c A hC ρ H1 locs1 ls1 hW1 hS1 hL1 hs1 hl1 cells slots Q hc hss hend
def zSnd (F : zF) : Prop := ∀ (k i : Nat) (st lo : List zV) (M : zM) (X : zX) (r : zV) (M' : zM) (X' : zX), F k i st lo M X = some (r, M', X') → zGoal l D γ τ L xs k i st lo M X r M' X'
/-- an operation is that of the instruction: at i of method k, whose bytes are B and whose instructions begin at P -/
def zSO (k : Nat) (B : ByteArray) (P : List Nat) (i : Nat) (op : zOp) : Prop := zb k = B → zpcs k = P → ∀ F : zF, zSnd l D γ τ L xs F → ∀ (st lo : List zV) (M : zM) (X : zX) (r : zV) (M' : zM) (X' : zX), op F F k i st lo M X = some (r, M', X') → zGoal l D γ τ L xs k i st lo M X r M' X'
end ZG
theorem zg_some {α : Type} {c : Prop} {d : Decidable c} {x : Option α} {v : α} (h : zg c x = some v) : c ∧ x = some v := by
  unfold zg at h
  split at h
  · exact ⟨by assumption, h⟩
  · cases h
theorem zpc_of {k i pc : Nat} {P : List Nat} (hP : zpcs k = P) (h : P[i]? = some pc) : zpc k i = pc := by
  unfold zpc
  rw [hP, List.getD_eq_getElem?_getD, h]
  rfl

