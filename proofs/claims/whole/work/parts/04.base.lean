/-! THE ABSTRACT MACHINE AGAINST THE MACHINE: what a state means -/
def zcv (τ ρ : Nat → Nat) (v : zV) : Value := match v.1 with
  | 0 => .int (Int32.ofInt v.2)
  | 1 => .long (Int64.ofInt v.2)
  | 2 => .ref (ρ (v.2 - 1).toNat)
  | 3 => .ref (τ v.2.toNat)
  | _ => .null
def zVOK (n : Nat) (v : zV) : Prop := (v.1 = 0 → zI v.2) ∧ (v.1 = 1 → zL v.2) ∧ (v.1 = 2 → 0 < v.2 ∧ v.2 ≤ (n : Int)) ∧ v.1 ≠ 8
def zsOK (n : Nat) (st : List zV) : Prop := ∀ v ∈ st, zVOK n v
/-- what a cell's place may hold -/
def zmOK (n : Nat) (t : Nat) (x : Int) : Prop := (t = 0 → zI x) ∧ (t = 1 → zL x) ∧ (t = 2 → 0 ≤ x ∧ x ≤ (n : Int))
def zstg (kd : Nat × Nat) (j : Nat) : Nat := match kd.1 with
  | 0 => 0
  | 1 => 1
  | 2 => 0
  | 3 => 2
  | 4 => 2
  | 5 => 2
  | t + 6 => ztag (zty t j)
def zsln (kd : Nat × Nat) : Nat := if kd.1 < 6 then kd.2 else znf (kd.1 - 6)
def zMOK (K : List (Nat × Nat)) (M : zM) : Prop := ∀ (q : Nat) (kd : Nat × Nat), K[q]? = some kd → ∀ j : Nat, j < zsln kd → zmOK K.length (zstg kd j) (M ((q : Int) + 1) j)
def zrf (ρ : Nat → Nat) (x : Int) : Option Nat := if x ≤ 0 then none else some (ρ (x - 1).toNat)
def zfv (ρ : Nat → Nat) (t : Nat) (x : Int) : Value := match t with
  | 0 => .int (Int32.ofInt x)
  | 1 => .long (Int64.ofInt x)
  | 2 => va_rf (zrf ρ x)
  | _ => .null
def zcell (γ : Nat → ClassId) (ρ : Nat → Nat) (kd : Nat × Nat) (f : Int → Int) : va_E := match kd.1 with
  | 0 => .inl (γ 0, kd.2, .inl (fun j => Int32.ofInt (f j)))
  | 1 => .inl (γ 1, kd.2, .inr (.inl (fun j => Int64.ofInt (f j))))
  | 2 => .inl (γ 2, kd.2, .inl (fun j => Int32.ofInt (f j)))
  | 3 => .inl (γ 3, kd.2, .inr (.inr (.inr (.inr (fun j => if j < kd.2 then zrf ρ (f j) else none)))))
  | 4 => .inl (γ 4, kd.2, .inr (.inr (.inr (.inr (fun j => if j < kd.2 then zrf ρ (f j) else none)))))
  | 5 => .inl (γ 5, kd.2, .inr (.inr (.inr (.inr (fun j => if j < kd.2 then zrf ρ (f j) else none)))))
  | t + 6 => .inr (t, (List.range (znf t)).map (fun j => zfv ρ (ztag (zty t j)) (f j)))
def zwl (γ : Nat → ClassId) (ρ : Nat → Nat) (K : List (Nat × Nat)) (M : zM) : va_W := (List.range K.length).map (fun q => (ρ q, zcell γ ρ (K.getD q (99, 0)) (fun j => M ((q : Int) + 1) j)))
theorem zwl_at {γ : Nat → ClassId} {ρ : Nat → Nat} {K : List (Nat × Nat)} {M : zM} {q : Nat} {kd : Nat × Nat} (h : K[q]? = some kd) : (zwl γ ρ K M)[q]? = some (ρ q, zcell γ ρ kd (fun j => M ((q : Int) + 1) j)) := by
  have hl := (List.getElem?_eq_some_iff.mp h).1
  unfold zwl
  rw [List.getElem?_map, List.getElem?_range hl]
  simp [List.getD_eq_getElem?_getD, h]
theorem zwl_len {γ : Nat → ClassId} {ρ : Nat → Nat} {K : List (Nat × Nat)} {M : zM} : (zwl γ ρ K M).length = K.length := by simp [zwl]
theorem zkd_some {X : zX} {r : Int} {kd : Nat × Nat} (h : zkd X r = kd) (hk : kd.1 < 99) : 0 < r ∧ X.1[(r - 1).toNat]? = some kd ∧ r ≤ (X.1.length : Int) ∧ (((r - 1).toNat : Nat) : Int) + 1 = r := by
  unfold zkd at h
  split at h
  · subst h; simp at hk
  · rename_i hr
    rw [List.getD_eq_getElem?_getD] at h
    cases hq : X.1[(r - 1).toNat]? with
    | none => rw [hq] at h; simp at h; subst h; simp at hk
    | some y =>
      rw [hq] at h; simp at h; subst h
      have := (List.getElem?_eq_some_iff.mp hq).1
      refine ⟨by omega, rfl, by omega, by omega⟩
/-- the world behind a write of one place -/
theorem zwl_put {γ : Nat → ClassId} {ρ : Nat → Nat} {K : List (Nat × Nat)} {M : zM} {q : Nat} {kd : Nat × Nat} (h : K[q]? = some kd) (M' : zM) (hM : ∀ x y, x ≠ (q : Int) + 1 → M' x y = M x y) :
    zwl γ ρ K M' = (zwl γ ρ K M).set q (ρ q, zcell γ ρ kd (fun j => M' ((q : Int) + 1) j)) := by
  apply List.ext_getElem?
  intro i
  by_cases hi : i < K.length
  · obtain ⟨kd', hk'⟩ : ∃ kd', K[i]? = some kd' := ⟨K[i], List.getElem?_eq_getElem hi⟩
    rw [zwl_at hk']
    by_cases hq : i = q
    · subst hq
      rw [List.getElem?_set_self (by rw [zwl_len]; exact hi)]
      cases hk'.symm.trans h
      rfl
    · rw [List.getElem?_set_ne (Ne.symm hq), zwl_at hk']
      congr 2
      congr 1
      funext j
      exact hM _ _ (by omega)
  · rw [List.getElem?_eq_none (by rw [zwl_len]; omega), List.getElem?_eq_none (by rw [List.length_set, zwl_len]; omega)]
def zSc (L : Nat) (xs : Nat → Int32) (M : zM) : Prop := M (-5) (-1) = (L : Int) ∧ ∀ j : Nat, j < L → M (-5) j = (xs j).toInt
def ztl (γ : Nat → ClassId) : List (ClassId × FieldType) := [(γ 0, .int), (γ 1, .long), (γ 2, .boolean), (γ 3, .object "CordCart$Cord"), (γ 4, .object "CordCart$Tape"), (γ 5, .array .int)]
/-- the world -/
def zWd (D : va_G) (γ : Nat → ClassId) (L : Nat) (xs : Nat → Int32) (A : Nat → Prop) (ρ : Nat → Nat) (K : List (Nat × Nat)) (M : zM) (H : Heap) : Prop :=
  va_P D vwCl (zwl γ ρ K M) H ∧ va_D A (zwl γ ρ K M) ∧ zMOK K M ∧ zSc L xs M
/-- locals -/
def zlvl (τ ρ : Nat → Nat) : Nat → List zV → List (Nat × Value)
  | _, [] => []
  | i, v :: vs => if v.1 = 9 then zlvl τ ρ (i + 1) vs else (i, zcv τ ρ v) :: zlvl τ ρ (i + 1) vs
theorem zlvl_mem {τ ρ : Nat → Nat} : ∀ {lo : List zV} {n : Nat} {q : Nat × Value}, q ∈ zlvl τ ρ n lo ↔ ∃ (i : Nat) (v : zV), lo[i]? = some v ∧ v.1 ≠ 9 ∧ q = (n + i, zcv τ ρ v)
  | [], n, q => by simp [zlvl]
  | v :: vs, n, q => by
    by_cases hv : v.1 = 9
    · rw [zlvl, if_pos hv, zlvl_mem]
      constructor
      · rintro ⟨i, w, h1, h2, h3⟩
        exact ⟨i + 1, w, by simpa using h1, h2, by rw [h3]; congr 1; omega⟩
      · rintro ⟨i, w, h1, h2, h3⟩
        cases i with
        | zero => simp at h1; subst h1; exact absurd hv h2
        | succ i => exact ⟨i, w, by simpa using h1, h2, by rw [h3]; congr 1; omega⟩
    · rw [zlvl, if_neg hv, List.mem_cons, zlvl_mem]
      constructor
      · rintro (rfl | ⟨i, w, h1, h2, h3⟩)
        · exact ⟨0, v, rfl, hv, by simp⟩
        · exact ⟨i + 1, w, by simpa using h1, h2, by rw [h3]; congr 1; omega⟩
      · rintro ⟨i, w, h1, h2, h3⟩
        cases i with
        | zero => simp at h1; subst h1; exact Or.inl (by simpa using h3)
        | succ i => exact Or.inr ⟨i, w, by simpa using h1, h2, by rw [h3]; congr 1; omega⟩
def zLc (τ ρ : Nat → Nat) (nL : Nat) (lo : List zV) (ls : Array Slot) : Prop := lo.length = nL ∧ lv_has ls nL (zlvl τ ρ 0 lo)
theorem zLc_at {τ ρ : Nat → Nat} {nL : Nat} {lo : List zV} {ls : Array Slot} (h : zLc τ ρ nL lo ls) {i : Nat} {v : zV} (hv : lo[i]? = some v) (h9 : v.1 ≠ 9) : ls[i]? = some (.val (zcv τ ρ v)) := by
  have := h.2.2.2 (i, zcv τ ρ v) (zlvl_mem.mpr ⟨i, v, hv, h9, by simp⟩)
  exact this
theorem z32 {x : Int} (h : zI x) : (Int32.ofInt x).toInt = x := Int32.toInt_ofInt_of_le (by omega) (by omega)
theorem z64 {x : Int} (h : zL x) : (Int64.ofInt x).toInt = x := Int64.toInt_ofInt_of_le (by omega) (by omega)
theorem z32le {x y : Int} (hx : zI x) (hy : zI y) : Int32.ofInt x ≤ Int32.ofInt y ↔ x ≤ y := by rw [Int32.le_iff_toInt_le, z32 hx, z32 hy]
theorem z32lt {x y : Int} (hx : zI x) (hy : zI y) : Int32.ofInt x < Int32.ofInt y ↔ x < y := by rw [Int32.lt_iff_toInt_lt, z32 hx, z32 hy]
theorem z32eq {x y : Int} (hx : zI x) (hy : zI y) : Int32.ofInt x = Int32.ofInt y ↔ x = y := by rw [← Int32.toInt_inj, z32 hx, z32 hy]
theorem z64lt {x y : Int} (hx : zL x) (hy : zL y) : Int64.ofInt x < Int64.ofInt y ↔ x < y := by rw [Int64.lt_iff_toInt_lt, z64 hx, z64 hy]
theorem z64eq {x y : Int} (hx : zL x) (hy : zL y) : Int64.ofInt x = Int64.ofInt y ↔ x = y := by rw [← Int64.toInt_inj, z64 hx, z64 hy]
theorem z32z : (0 : Int32) = Int32.ofInt 0 := rfl
theorem zin {j : Int} {n : Nat} (hj : zI j) (h0 : 0 ≤ j) (h1 : j < (n : Int)) : vp_in (Int32.ofInt j) n := vp_in_iff.mpr (by rw [z32 hj]; exact ⟨h0, h1⟩)
theorem zcl {j : Int} (hj : zI j) (h0 : 0 ≤ j) : (((Int32.ofInt j).toNatClampNeg : Nat) : Int) = j := by
  have e : (Int32.ofInt j).toNatClampNeg = (Int32.ofInt j).toInt.toNat := rfl
  rw [e, z32 hj]; omega
theorem zcl' {j : Int} (hj : zI j) (h0 : 0 ≤ j) : (Int32.ofInt j).toNatClampNeg = j.toNat := by
  have e : (Int32.ofInt j).toNatClampNeg = (Int32.ofInt j).toInt.toNat := rfl
  rw [e, z32 hj]
theorem zcat_eq {τ ρ : Nat → Nat} (st : List zV) : ((st.map (zcv τ ρ)).map fun v => v.category).sum = zcat st := by
  unfold zcat
  rw [List.map_map]
  congr 1
  apply List.map_congr_left
  rintro ⟨t, x⟩ _
  match t with
  | 0 => rfl
  | 1 => rfl
  | 2 => rfl
  | 3 => rfl
  | t + 4 => simp [zcv, Value.category]
