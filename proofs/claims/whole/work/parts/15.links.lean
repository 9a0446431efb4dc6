/-! THE LINKS: words of the tables, classes, callees -/
theorem zsw_all {ps : List (Int × Nat)} {lo hi : Int} (h : ps.map Prod.fst = (List.range ps.length).map (fun j : Nat => lo + (j : Int))) (hh : hi + 1 = lo + (ps.length : Int)) : ∀ v : Int, lo ≤ v → v ≤ hi → ∃ q ∈ ps, q.1 = v := by
  intro v h1 h2
  have hl : (v - lo).toNat < ps.length := by omega
  have h3 : (ps.map Prod.fst)[(v - lo).toNat]? = some v := by
    rw [h, List.getElem?_map, List.getElem?_range hl]
    show some (lo + (((v - lo).toNat : Nat) : Int)) = some v
    congr 1
    omega
  rw [List.getElem?_map] at h3
  cases hq : ps[(v - lo).toNat]? with
  | none => rw [hq] at h3; cases h3
  | some q =>
    rw [hq] at h3
    exact ⟨q, List.mem_of_getElem? hq, Option.some.inj h3⟩
theorem zlk_no {v d : Int} : ∀ {ps : List (Int × Int)}, (∀ q ∈ ps, q.1 ≠ v) → Op.lookupswitch.offset ps d v = d
  | [], _ => by simp [Op.lookupswitch.offset]
  | (a, b) :: ps, h => by
    rw [Op.lookupswitch.offset_cons, if_neg (h (a, b) List.mem_cons_self)]
    exact zlk_no fun q hq => h q (List.mem_cons_of_mem _ hq)
theorem zNw_of (j : Nat) {w : Cond} (h : zNw[j]? = some w) : w ∈ zNw := List.mem_of_getElem? h
theorem zt_obj : Cond.code objectInit ⟨#[0xb1]⟩ 1 none ∈ zT := zT_of 29 (by decide +kernel) (by decide +kernel)
theorem zuw_0 : (u_ws RX0 TX0 4).all (fun w => decide (w ∈ lw_tbl) && goodWord w) = true := by decide +kernel
theorem zcl_0 : zCl 0 RX0 TX0 4 := ⟨rfl, fun w hw => by
  have h := List.all_eq_true.mp zuw_0 w hw
  rw [Bool.and_eq_true] at h
  exact List.mem_filter.mpr ⟨of_decide_eq_true h.1, h.2⟩, rfl, by decide +kernel, nmX0, by decide⟩
theorem zvc_0 : vwCl[0]? = some (RX0, TX0, 4) ∧ 0 < 13 := ⟨rfl, by decide⟩
theorem zdef_0 {τ : Nat → Nat} : ∀ j, j < 4 → defaultValue (zty 0 j) = zfv τ (ztag (zty 0 j)) 0 := by
  have h : ∀ j, j < 4 → defaultValue (zty 0 j) = zfv (fun x => x) (ztag (zty 0 j)) 0 := by decide +kernel
  intro j hj
  rw [h j hj]
  generalize ztag (zty 0 j) = t
  match t with
  | 0 => rfl
  | 1 => rfl
  | 2 => rfl
  | _ + 3 => rfl
theorem zuw_1 : (u_ws RX1 TX1 4).all (fun w => decide (w ∈ lw_tbl) && goodWord w) = true := by decide +kernel
theorem zcl_1 : zCl 1 RX1 TX1 4 := ⟨rfl, fun w hw => by
  have h := List.all_eq_true.mp zuw_1 w hw
  rw [Bool.and_eq_true] at h
  exact List.mem_filter.mpr ⟨of_decide_eq_true h.1, h.2⟩, rfl, by decide +kernel, nmX1, by decide⟩
theorem zvc_1 : vwCl[1]? = some (RX1, TX1, 4) ∧ 1 < 13 := ⟨rfl, by decide⟩
theorem zdef_1 {τ : Nat → Nat} : ∀ j, j < 4 → defaultValue (zty 1 j) = zfv τ (ztag (zty 1 j)) 0 := by
  have h : ∀ j, j < 4 → defaultValue (zty 1 j) = zfv (fun x => x) (ztag (zty 1 j)) 0 := by decide +kernel
  intro j hj
  rw [h j hj]
  generalize ztag (zty 1 j) = t
  match t with
  | 0 => rfl
  | 1 => rfl
  | 2 => rfl
  | _ + 3 => rfl
theorem zuw_2 : (u_ws RX2 TX2 12).all (fun w => decide (w ∈ lw_tbl) && goodWord w) = true := by decide +kernel
theorem zcl_2 : zCl 2 RX2 TX2 12 := ⟨rfl, fun w hw => by
  have h := List.all_eq_true.mp zuw_2 w hw
  rw [Bool.and_eq_true] at h
  exact List.mem_filter.mpr ⟨of_decide_eq_true h.1, h.2⟩, rfl, by decide +kernel, nmX2, by decide⟩
theorem zvc_2 : vwCl[2]? = some (RX2, TX2, 12) ∧ 2 < 13 := ⟨rfl, by decide⟩
theorem zdef_2 {τ : Nat → Nat} : ∀ j, j < 12 → defaultValue (zty 2 j) = zfv τ (ztag (zty 2 j)) 0 := by
  have h : ∀ j, j < 12 → defaultValue (zty 2 j) = zfv (fun x => x) (ztag (zty 2 j)) 0 := by decide +kernel
  intro j hj
  rw [h j hj]
  generalize ztag (zty 2 j) = t
  match t with
  | 0 => rfl
  | 1 => rfl
  | 2 => rfl
  | _ + 3 => rfl
theorem zuw_3 : (u_ws RX3 TX3 6).all (fun w => decide (w ∈ lw_tbl) && goodWord w) = true := by decide +kernel
theorem zcl_3 : zCl 3 RX3 TX3 6 := ⟨rfl, fun w hw => by
  have h := List.all_eq_true.mp zuw_3 w hw
  rw [Bool.and_eq_true] at h
  exact List.mem_filter.mpr ⟨of_decide_eq_true h.1, h.2⟩, rfl, by decide +kernel, nmX3, by decide⟩
theorem zvc_3 : vwCl[3]? = some (RX3, TX3, 6) ∧ 3 < 13 := ⟨rfl, by decide⟩
theorem zdef_3 {τ : Nat → Nat} : ∀ j, j < 6 → defaultValue (zty 3 j) = zfv τ (ztag (zty 3 j)) 0 := by
  have h : ∀ j, j < 6 → defaultValue (zty 3 j) = zfv (fun x => x) (ztag (zty 3 j)) 0 := by decide +kernel
  intro j hj
  rw [h j hj]
  generalize ztag (zty 3 j) = t
  match t with
  | 0 => rfl
  | 1 => rfl
  | 2 => rfl
  | _ + 3 => rfl
theorem zuw_4 : (u_ws RX4 TX4 3).all (fun w => decide (w ∈ lw_tbl) && goodWord w) = true := by decide +kernel
theorem zcl_4 : zCl 4 RX4 TX4 3 := ⟨rfl, fun w hw => by
  have h := List.all_eq_true.mp zuw_4 w hw
  rw [Bool.and_eq_true] at h
  exact List.mem_filter.mpr ⟨of_decide_eq_true h.1, h.2⟩, rfl, by decide +kernel, nmX4, by decide⟩
theorem zvc_4 : vwCl[4]? = some (RX4, TX4, 3) ∧ 4 < 13 := ⟨rfl, by decide⟩
theorem zdef_4 {τ : Nat → Nat} : ∀ j, j < 3 → defaultValue (zty 4 j) = zfv τ (ztag (zty 4 j)) 0 := by
  have h : ∀ j, j < 3 → defaultValue (zty 4 j) = zfv (fun x => x) (ztag (zty 4 j)) 0 := by decide +kernel
  intro j hj
  rw [h j hj]
  generalize ztag (zty 4 j) = t
  match t with
  | 0 => rfl
  | 1 => rfl
  | 2 => rfl
  | _ + 3 => rfl
theorem zuw_5 : (u_ws RX5 TX5 5).all (fun w => decide (w ∈ lw_tbl) && goodWord w) = true := by decide +kernel
theorem zcl_5 : zCl 5 RX5 TX5 5 := ⟨rfl, fun w hw => by
  have h := List.all_eq_true.mp zuw_5 w hw
  rw [Bool.and_eq_true] at h
  exact List.mem_filter.mpr ⟨of_decide_eq_true h.1, h.2⟩, rfl, by decide +kernel, nmX5, by decide⟩
theorem zvc_5 : vwCl[5]? = some (RX5, TX5, 5) ∧ 5 < 13 := ⟨rfl, by decide⟩
theorem zdef_5 {τ : Nat → Nat} : ∀ j, j < 5 → defaultValue (zty 5 j) = zfv τ (ztag (zty 5 j)) 0 := by
  have h : ∀ j, j < 5 → defaultValue (zty 5 j) = zfv (fun x => x) (ztag (zty 5 j)) 0 := by decide +kernel
  intro j hj
  rw [h j hj]
  generalize ztag (zty 5 j) = t
  match t with
  | 0 => rfl
  | 1 => rfl
  | 2 => rfl
  | _ + 3 => rfl
theorem zuw_6 : (u_ws RX6 TX6 9).all (fun w => decide (w ∈ lw_tbl) && goodWord w) = true := by decide +kernel
theorem zcl_6 : zCl 6 RX6 TX6 9 := ⟨rfl, fun w hw => by
  have h := List.all_eq_true.mp zuw_6 w hw
  rw [Bool.and_eq_true] at h
  exact List.mem_filter.mpr ⟨of_decide_eq_true h.1, h.2⟩, rfl, by decide +kernel, nmX6, by decide⟩
theorem zvc_6 : vwCl[6]? = some (RX6, TX6, 9) ∧ 6 < 13 := ⟨rfl, by decide⟩
theorem zdef_6 {τ : Nat → Nat} : ∀ j, j < 9 → defaultValue (zty 6 j) = zfv τ (ztag (zty 6 j)) 0 := by
  have h : ∀ j, j < 9 → defaultValue (zty 6 j) = zfv (fun x => x) (ztag (zty 6 j)) 0 := by decide +kernel
  intro j hj
  rw [h j hj]
  generalize ztag (zty 6 j) = t
  match t with
  | 0 => rfl
  | 1 => rfl
  | 2 => rfl
  | _ + 3 => rfl
theorem zuw_7 : (u_ws RX7 TX7 8).all (fun w => decide (w ∈ lw_tbl) && goodWord w) = true := by decide +kernel
theorem zcl_7 : zCl 7 RX7 TX7 8 := ⟨rfl, fun w hw => by
  have h := List.all_eq_true.mp zuw_7 w hw
  rw [Bool.and_eq_true] at h
  exact List.mem_filter.mpr ⟨of_decide_eq_true h.1, h.2⟩, rfl, by decide +kernel, nmX7, by decide⟩
theorem zvc_7 : vwCl[7]? = some (RX7, TX7, 8) ∧ 7 < 13 := ⟨rfl, by decide⟩
theorem zdef_7 {τ : Nat → Nat} : ∀ j, j < 8 → defaultValue (zty 7 j) = zfv τ (ztag (zty 7 j)) 0 := by
  have h : ∀ j, j < 8 → defaultValue (zty 7 j) = zfv (fun x => x) (ztag (zty 7 j)) 0 := by decide +kernel
  intro j hj
  rw [h j hj]
  generalize ztag (zty 7 j) = t
  match t with
  | 0 => rfl
  | 1 => rfl
  | 2 => rfl
  | _ + 3 => rfl
theorem zuw_8 : (u_ws RX8 TX8 4).all (fun w => decide (w ∈ lw_tbl) && goodWord w) = true := by decide +kernel
theorem zcl_8 : zCl 8 RX8 TX8 4 := ⟨rfl, fun w hw => by
  have h := List.all_eq_true.mp zuw_8 w hw
  rw [Bool.and_eq_true] at h
  exact List.mem_filter.mpr ⟨of_decide_eq_true h.1, h.2⟩, rfl, by decide +kernel, nmX8, by decide⟩
theorem zvc_8 : vwCl[8]? = some (RX8, TX8, 4) ∧ 8 < 13 := ⟨rfl, by decide⟩
theorem zdef_8 {τ : Nat → Nat} : ∀ j, j < 4 → defaultValue (zty 8 j) = zfv τ (ztag (zty 8 j)) 0 := by
  have h : ∀ j, j < 4 → defaultValue (zty 8 j) = zfv (fun x => x) (ztag (zty 8 j)) 0 := by decide +kernel
  intro j hj
  rw [h j hj]
  generalize ztag (zty 8 j) = t
  match t with
  | 0 => rfl
  | 1 => rfl
  | 2 => rfl
  | _ + 3 => rfl
theorem zuw_9 : (u_ws RX9 TX9 4).all (fun w => decide (w ∈ lw_tbl) && goodWord w) = true := by decide +kernel
theorem zcl_9 : zCl 9 RX9 TX9 4 := ⟨rfl, fun w hw => by
  have h := List.all_eq_true.mp zuw_9 w hw
  rw [Bool.and_eq_true] at h
  exact List.mem_filter.mpr ⟨of_decide_eq_true h.1, h.2⟩, rfl, by decide +kernel, nmX9, by decide⟩
theorem zvc_9 : vwCl[9]? = some (RX9, TX9, 4) ∧ 9 < 13 := ⟨rfl, by decide⟩
theorem zdef_9 {τ : Nat → Nat} : ∀ j, j < 4 → defaultValue (zty 9 j) = zfv τ (ztag (zty 9 j)) 0 := by
  have h : ∀ j, j < 4 → defaultValue (zty 9 j) = zfv (fun x => x) (ztag (zty 9 j)) 0 := by decide +kernel
  intro j hj
  rw [h j hj]
  generalize ztag (zty 9 j) = t
  match t with
  | 0 => rfl
  | 1 => rfl
  | 2 => rfl
  | _ + 3 => rfl
theorem zuw_10 : (u_ws RX10 TX10 10).all (fun w => decide (w ∈ lw_tbl) && goodWord w) = true := by decide +kernel
theorem zcl_10 : zCl 10 RX10 TX10 10 := ⟨rfl, fun w hw => by
  have h := List.all_eq_true.mp zuw_10 w hw
  rw [Bool.and_eq_true] at h
  exact List.mem_filter.mpr ⟨of_decide_eq_true h.1, h.2⟩, rfl, by decide +kernel, nmX10, by decide⟩
theorem zvc_10 : vwCl[10]? = some (RX10, TX10, 10) ∧ 10 < 13 := ⟨rfl, by decide⟩
theorem zdef_10 {τ : Nat → Nat} : ∀ j, j < 10 → defaultValue (zty 10 j) = zfv τ (ztag (zty 10 j)) 0 := by
  have h : ∀ j, j < 10 → defaultValue (zty 10 j) = zfv (fun x => x) (ztag (zty 10 j)) 0 := by decide +kernel
  intro j hj
  rw [h j hj]
  generalize ztag (zty 10 j) = t
  match t with
  | 0 => rfl
  | 1 => rfl
  | 2 => rfl
  | _ + 3 => rfl
theorem zuw_11 : (u_ws RX11 TX11 10).all (fun w => decide (w ∈ lw_tbl) && goodWord w) = true := by decide +kernel
theorem zcl_11 : zCl 11 RX11 TX11 10 := ⟨rfl, fun w hw => by
  have h := List.all_eq_true.mp zuw_11 w hw
  rw [Bool.and_eq_true] at h
  exact List.mem_filter.mpr ⟨of_decide_eq_true h.1, h.2⟩, rfl, by decide +kernel, nmX11, by decide⟩
theorem zvc_11 : vwCl[11]? = some (RX11, TX11, 10) ∧ 11 < 13 := ⟨rfl, by decide⟩
theorem zdef_11 {τ : Nat → Nat} : ∀ j, j < 10 → defaultValue (zty 11 j) = zfv τ (ztag (zty 11 j)) 0 := by
  have h : ∀ j, j < 10 → defaultValue (zty 11 j) = zfv (fun x => x) (ztag (zty 11 j)) 0 := by decide +kernel
  intro j hj
  rw [h j hj]
  generalize ztag (zty 11 j) = t
  match t with
  | 0 => rfl
  | 1 => rfl
  | 2 => rfl
  | _ + 3 => rfl
theorem zuw_12 : (u_ws RX12 TX12 67).all (fun w => decide (w ∈ lw_tbl) && goodWord w) = true := by decide +kernel
theorem zcl_12 : zCl 12 RX12 TX12 67 := ⟨rfl, fun w hw => by
  have h := List.all_eq_true.mp zuw_12 w hw
  rw [Bool.and_eq_true] at h
  exact List.mem_filter.mpr ⟨of_decide_eq_true h.1, h.2⟩, rfl, by decide +kernel, nmX12, by decide⟩
theorem zvc_12 : vwCl[12]? = some (RX12, TX12, 67) ∧ 12 < 13 := ⟨rfl, by decide⟩
theorem zdef_12 {τ : Nat → Nat} : ∀ j, j < 67 → defaultValue (zty 12 j) = zfv τ (ztag (zty 12 j)) 0 := by
  have h : ∀ j, j < 67 → defaultValue (zty 12 j) = zfv (fun x => x) (ztag (zty 12 j)) 0 := by decide +kernel
  intro j hj
  rw [h j hj]
  generalize ztag (zty 12 j) = t
  match t with
  | 0 => rfl
  | 1 => rfl
  | 2 => rfl
  | _ + 3 => rfl
theorem zt_1 : (Cond.initialized "CordCart") ∈ zT := zT_of 1 (by decide +kernel) (by decide +kernel)
theorem zt_2 : (Cond.initialized "CordCart$Cart") ∈ zT := zT_of 2 (by decide +kernel) (by decide +kernel)
theorem zt_3 : (Cond.initialized "CordCart$Cord") ∈ zT := zT_of 3 (by decide +kernel) (by decide +kernel)
theorem zt_4 : (Cond.initialized "CordCart$Pose") ∈ zT := zT_of 4 (by decide +kernel) (by decide +kernel)
theorem zt_5 : (Cond.initialized "CordCart$Floor") ∈ zT := zT_of 5 (by decide +kernel) (by decide +kernel)
theorem zt_6 : (Cond.initialized "CordCart$Line") ∈ zT := zT_of 6 (by decide +kernel) (by decide +kernel)
theorem zt_7 : (Cond.initialized "CordCart$Weight") ∈ zT := zT_of 7 (by decide +kernel) (by decide +kernel)
theorem zt_8 : (Cond.initialized "CordCart$Run") ∈ zT := zT_of 8 (by decide +kernel) (by decide +kernel)
theorem zt_9 : (Cond.initialized "CordCart$Show") ∈ zT := zT_of 9 (by decide +kernel) (by decide +kernel)
theorem zt_10 : (Cond.initialized "CordCart$Wish") ∈ zT := zT_of 10 (by decide +kernel) (by decide +kernel)
theorem zt_11 : (Cond.initialized "CordCart$Finds") ∈ zT := zT_of 11 (by decide +kernel) (by decide +kernel)
theorem zt_12 : (Cond.initialized "CordCart$Tape") ∈ zT := zT_of 12 (by decide +kernel) (by decide +kernel)
theorem zt_14 : (Cond.initialized "CordCartModel") ∈ zT := zT_of 14 (by decide +kernel) (by decide +kernel)
theorem zt_16 : (Cond.initialized "java/lang/System") ∈ zT := zT_of 16 (by decide +kernel) (by decide +kernel)
theorem zt_20 : (Cond.initialized "java/lang/IllegalArgumentException") ∈ zT := zT_of 20 (by decide +kernel) (by decide +kernel)
theorem zt_21 : (Cond.initialized "java/lang/IllegalStateException") ∈ zT := zT_of 21 (by decide +kernel) (by decide +kernel)
theorem zt_22 : (Cond.classLink "CordCartLaw" (8 : Nat) "CordCart") ∈ zT := zT_of 22 (by decide +kernel) (by decide +kernel)
theorem zt_23 : (Cond.instantiable "CordCart" (10 : Nat)) ∈ zT := zT_of 23 (by decide +kernel) (by decide +kernel)
theorem zt_24 : (Cond.methodLink "CordCartLaw" (28 : Nat) ({ cls := "CordCart", name := "<init>", desc := "()V" } : MethodName)) ∈ zT := zT_of 24 (by decide +kernel) (by decide +kernel)
theorem zt_25 : (Cond.instanceMethod ({ cls := "CordCart", name := "<init>", desc := "()V" } : MethodName)) ∈ zT := zT_of 25 (by decide +kernel) (by decide +kernel)
theorem zt_27 : (Cond.methodLink "CordCart" (3 : Nat) ({ cls := "java/lang/Object", name := "<init>", desc := "()V" } : MethodName)) ∈ zT := zT_of 27 (by decide +kernel) (by decide +kernel)
theorem zt_28 : (Cond.instanceMethod ({ cls := "java/lang/Object", name := "<init>", desc := "()V" } : MethodName)) ∈ zT := zT_of 28 (by decide +kernel) (by decide +kernel)
theorem zt_30 : (Cond.classLink "CordCart" (9 : Nat) "CordCart$Cart") ∈ zT := zT_of 30 (by decide +kernel) (by decide +kernel)
theorem zt_31 : (Cond.instantiable "CordCart$Cart" (4 : Nat)) ∈ zT := zT_of 31 (by decide +kernel) (by decide +kernel)
theorem zt_32 : (Cond.methodLink "CordCart" (11 : Nat) ({ cls := "CordCart$Cart", name := "<init>", desc := "()V" } : MethodName)) ∈ zT := zT_of 32 (by decide +kernel) (by decide +kernel)
theorem zt_33 : (Cond.instanceMethod ({ cls := "CordCart$Cart", name := "<init>", desc := "()V" } : MethodName)) ∈ zT := zT_of 33 (by decide +kernel) (by decide +kernel)
theorem zt_35 : (Cond.methodLink "CordCart$Cart" (3 : Nat) ({ cls := "java/lang/Object", name := "<init>", desc := "()V" } : MethodName)) ∈ zT := zT_of 35 (by decide +kernel) (by decide +kernel)
theorem zt_36 : (Cond.classLink "CordCart$Cart" (9 : Nat) "CordCart$Cord") ∈ zT := zT_of 36 (by decide +kernel) (by decide +kernel)
theorem zt_38 : (Cond.instantiable "CordCart$Cord" (4 : Nat)) ∈ zT := zT_of 38 (by decide +kernel) (by decide +kernel)
theorem zt_40 : (Cond.instanceMethod ({ cls := "CordCart$Cord", name := "<init>", desc := "()V" } : MethodName)) ∈ zT := zT_of 40 (by decide +kernel) (by decide +kernel)
theorem zt_42 : (Cond.methodLink "CordCart$Cord" (3 : Nat) ({ cls := "java/lang/Object", name := "<init>", desc := "()V" } : MethodName)) ∈ zT := zT_of 42 (by decide +kernel) (by decide +kernel)
theorem zt_43 : (Cond.fieldLink "CordCart$Cord" (21 : Nat) "CordCart$Cord" "count" "I") ∈ zT := zT_of 43 (by decide +kernel) (by decide +kernel)
theorem zt_44 : (Cond.fieldLink "CordCart$Cart" (22 : Nat) "CordCart$Cord" "count" "I") ∈ zT := zT_of 44 (by decide +kernel) (by decide +kernel)
theorem zt_45 : (Cond.fieldLink "CordCart$Wish" (31 : Nat) "CordCart$Cord" "count" "I") ∈ zT := zT_of 45 (by decide +kernel) (by decide +kernel)
theorem zt_46 : (Cond.fieldLink "CordCart" (93 : Nat) "CordCart$Cord" "count" "I") ∈ zT := zT_of 46 (by decide +kernel) (by decide +kernel)
theorem zt_47 : (Cond.fieldLink "CordCart$Run" (69 : Nat) "CordCart$Cord" "count" "I") ∈ zT := zT_of 47 (by decide +kernel) (by decide +kernel)
theorem zt_48 : (Cond.fieldLink "CordCart$Finds" (139 : Nat) "CordCart$Cord" "count" "I") ∈ zT := zT_of 48 (by decide +kernel) (by decide +kernel)
theorem zt_49 : (Cond.fieldLink "CordCart$Cord" (9 : Nat) "CordCart$Cord" "kinds" "[I") ∈ zT := zT_of 49 (by decide +kernel) (by decide +kernel)
theorem zt_50 : (Cond.fieldLink "CordCart$Run" (47 : Nat) "CordCart$Cord" "kinds" "[I") ∈ zT := zT_of 50 (by decide +kernel) (by decide +kernel)
theorem zt_51 : (Cond.fieldLink "CordCart" (106 : Nat) "CordCart$Cord" "kinds" "[I") ∈ zT := zT_of 51 (by decide +kernel) (by decide +kernel)
theorem zt_52 : (Cond.fieldLink "CordCart$Finds" (96 : Nat) "CordCart$Cord" "kinds" "[I") ∈ zT := zT_of 52 (by decide +kernel) (by decide +kernel)
theorem zt_53 : (Cond.fieldLink "CordCart$Cord" (15 : Nat) "CordCart$Cord" "lengths" "[I") ∈ zT := zT_of 53 (by decide +kernel) (by decide +kernel)
theorem zt_54 : (Cond.fieldLink "CordCart" (110 : Nat) "CordCart$Cord" "lengths" "[I") ∈ zT := zT_of 54 (by decide +kernel) (by decide +kernel)
theorem zt_55 : (Cond.fieldLink "CordCart$Run" (100 : Nat) "CordCart$Cord" "lengths" "[I") ∈ zT := zT_of 55 (by decide +kernel) (by decide +kernel)
theorem zt_56 : (Cond.fieldLink "CordCart$Cord" (18 : Nat) "CordCart$Cord" "worns" "[I") ∈ zT := zT_of 56 (by decide +kernel) (by decide +kernel)
theorem zt_57 : (Cond.fieldLink "CordCart$Show" (143 : Nat) "CordCart$Cord" "worns" "[I") ∈ zT := zT_of 57 (by decide +kernel) (by decide +kernel)
theorem zt_58 : (Cond.fieldLink "CordCart" (113 : Nat) "CordCart$Cord" "worns" "[I") ∈ zT := zT_of 58 (by decide +kernel) (by decide +kernel)
theorem zt_68 : (Cond.arrayClass FieldType.int) ∈ zT := zT_of 68 (by decide +kernel) (by decide +kernel)
theorem zt_69 : (Cond.fieldLink "CordCart$Cart" (11 : Nat) "CordCart$Cart" "cords" "[LCordCart$Cord;") ∈ zT := zT_of 69 (by decide +kernel) (by decide +kernel)
theorem zt_70 : (Cond.fieldLink "CordCart$Run" (41 : Nat) "CordCart$Cart" "cords" "[LCordCart$Cord;") ∈ zT := zT_of 70 (by decide +kernel) (by decide +kernel)
theorem zt_71 : (Cond.fieldLink "CordCart" (89 : Nat) "CordCart$Cart" "cords" "[LCordCart$Cord;") ∈ zT := zT_of 71 (by decide +kernel) (by decide +kernel)
theorem zt_72 : (Cond.fieldLink "CordCart$Show" (125 : Nat) "CordCart$Cart" "cords" "[LCordCart$Cord;") ∈ zT := zT_of 72 (by decide +kernel) (by decide +kernel)
theorem zt_73 : (Cond.fieldLink "CordCart$Finds" (90 : Nat) "CordCart$Cart" "cords" "[LCordCart$Cord;") ∈ zT := zT_of 73 (by decide +kernel) (by decide +kernel)
theorem zt_74 : (Cond.fieldLink "CordCart$Cart" (17 : Nat) "CordCart$Cart" "acts" "[I") ∈ zT := zT_of 74 (by decide +kernel) (by decide +kernel)
theorem zt_75 : (Cond.fieldLink "CordCart$Cart" (32 : Nat) "CordCart$Cart" "pegs" "I") ∈ zT := zT_of 75 (by decide +kernel) (by decide +kernel)
theorem zt_76 : (Cond.fieldLink "CordCart" (123 : Nat) "CordCart$Cart" "pegs" "I") ∈ zT := zT_of 76 (by decide +kernel) (by decide +kernel)
theorem zt_77 : (Cond.fieldLink "CordCart$Cart" (35 : Nat) "CordCart$Cart" "hard" "I") ∈ zT := zT_of 77 (by decide +kernel) (by decide +kernel)
theorem zt_78 : (Cond.fieldLink "CordCart" (116 : Nat) "CordCart$Cart" "hard" "I") ∈ zT := zT_of 78 (by decide +kernel) (by decide +kernel)
theorem zt_79 : (Cond.fieldLink "CordCart$Run" (84 : Nat) "CordCart$Cart" "hard" "I") ∈ zT := zT_of 79 (by decide +kernel) (by decide +kernel)
theorem zt_89 : (Cond.classLink "CordCart" (16 : Nat) "CordCart$Pose") ∈ zT := zT_of 89 (by decide +kernel) (by decide +kernel)
theorem zt_90 : (Cond.instantiable "CordCart$Pose" (5 : Nat)) ∈ zT := zT_of 90 (by decide +kernel) (by decide +kernel)
theorem zt_92 : (Cond.instanceMethod ({ cls := "CordCart$Pose", name := "<init>", desc := "()V" } : MethodName)) ∈ zT := zT_of 92 (by decide +kernel) (by decide +kernel)
theorem zt_94 : (Cond.methodLink "CordCart$Pose" (3 : Nat) ({ cls := "java/lang/Object", name := "<init>", desc := "()V" } : MethodName)) ∈ zT := zT_of 94 (by decide +kernel) (by decide +kernel)
theorem zt_95 : (Cond.fieldLink "CordCart$Pose" (9 : Nat) "CordCart$Pose" "x" "I") ∈ zT := zT_of 95 (by decide +kernel) (by decide +kernel)
theorem zt_96 : (Cond.fieldLink "CordCart$Pose" (15 : Nat) "CordCart$Pose" "y" "I") ∈ zT := zT_of 96 (by decide +kernel) (by decide +kernel)
theorem zt_97 : (Cond.fieldLink "CordCart$Pose" (18 : Nat) "CordCart$Pose" "direction" "I") ∈ zT := zT_of 97 (by decide +kernel) (by decide +kernel)
theorem zt_98 : (Cond.fieldLink "CordCart$Wish" (54 : Nat) "CordCart$Pose" "direction" "I") ∈ zT := zT_of 98 (by decide +kernel) (by decide +kernel)
theorem zt_99 : (Cond.fieldLink "CordCart" (354 : Nat) "CordCart$Pose" "direction" "I") ∈ zT := zT_of 99 (by decide +kernel) (by decide +kernel)
theorem zt_100 : (Cond.fieldLink "CordCart$Pose" (21 : Nat) "CordCart$Pose" "phase" "I") ∈ zT := zT_of 100 (by decide +kernel) (by decide +kernel)
theorem zt_101 : (Cond.fieldLink "CordCart$Pose" (24 : Nat) "CordCart$Pose" "step" "I") ∈ zT := zT_of 101 (by decide +kernel) (by decide +kernel)
theorem zt_102 : (Cond.fieldLink "CordCart$Show" (117 : Nat) "CordCart$Pose" "step" "I") ∈ zT := zT_of 102 (by decide +kernel) (by decide +kernel)
theorem zt_103 : (Cond.fieldLink "CordCart$Run" (94 : Nat) "CordCart$Pose" "step" "I") ∈ zT := zT_of 103 (by decide +kernel) (by decide +kernel)
theorem zt_115 : (Cond.classLink "CordCart" (23 : Nat) "CordCart$Floor") ∈ zT := zT_of 115 (by decide +kernel) (by decide +kernel)
theorem zt_116 : (Cond.instantiable "CordCart$Floor" (6 : Nat)) ∈ zT := zT_of 116 (by decide +kernel) (by decide +kernel)
theorem zt_118 : (Cond.instanceMethod ({ cls := "CordCart$Floor", name := "<init>", desc := "()V" } : MethodName)) ∈ zT := zT_of 118 (by decide +kernel) (by decide +kernel)
theorem zt_120 : (Cond.methodLink "CordCart$Floor" (3 : Nat) ({ cls := "java/lang/Object", name := "<init>", desc := "()V" } : MethodName)) ∈ zT := zT_of 120 (by decide +kernel) (by decide +kernel)
theorem zt_121 : (Cond.classLink "CordCart$Floor" (19 : Nat) "CordCart$Line") ∈ zT := zT_of 121 (by decide +kernel) (by decide +kernel)
theorem zt_122 : (Cond.instantiable "CordCart$Line" (3 : Nat)) ∈ zT := zT_of 122 (by decide +kernel) (by decide +kernel)
theorem zt_124 : (Cond.instanceMethod ({ cls := "CordCart$Line", name := "<init>", desc := "()V" } : MethodName)) ∈ zT := zT_of 124 (by decide +kernel) (by decide +kernel)
theorem zt_126 : (Cond.methodLink "CordCart$Line" (3 : Nat) ({ cls := "java/lang/Object", name := "<init>", desc := "()V" } : MethodName)) ∈ zT := zT_of 126 (by decide +kernel) (by decide +kernel)
theorem zt_127 : (Cond.fieldLink "CordCart$Line" (9 : Nat) "CordCart$Line" "states" "[I") ∈ zT := zT_of 127 (by decide +kernel) (by decide +kernel)
theorem zt_128 : (Cond.fieldLink "CordCart$Line" (15 : Nat) "CordCart$Line" "head" "I") ∈ zT := zT_of 128 (by decide +kernel) (by decide +kernel)
theorem zt_129 : (Cond.fieldLink "CordCart$Line" (19 : Nat) "CordCart$Line" "tail" "I") ∈ zT := zT_of 129 (by decide +kernel) (by decide +kernel)
theorem zt_137 : (Cond.arrayClass FieldType.boolean) ∈ zT := zT_of 137 (by decide +kernel) (by decide +kernel)
theorem zt_138 : (Cond.fieldLink "CordCart$Floor" (9 : Nat) "CordCart$Floor" "blocked" "[Z") ∈ zT := zT_of 138 (by decide +kernel) (by decide +kernel)
theorem zt_139 : (Cond.fieldLink "CordCart$Floor" (29 : Nat) "CordCart$Floor" "blockedCells" "I") ∈ zT := zT_of 139 (by decide +kernel) (by decide +kernel)
theorem zt_140 : (Cond.fieldLink "CordCart" (341 : Nat) "CordCart$Floor" "blockedCells" "I") ∈ zT := zT_of 140 (by decide +kernel) (by decide +kernel)
theorem zt_141 : (Cond.fieldLink "CordCart$Floor" (15 : Nat) "CordCart$Floor" "units" "[I") ∈ zT := zT_of 141 (by decide +kernel) (by decide +kernel)
theorem zt_142 : (Cond.fieldLink "CordCart$Floor" (22 : Nat) "CordCart$Floor" "stepped" "LCordCart$Line;") ∈ zT := zT_of 142 (by decide +kernel) (by decide +kernel)
theorem zt_143 : (Cond.fieldLink "CordCart$Floor" (26 : Nat) "CordCart$Floor" "turned" "LCordCart$Line;") ∈ zT := zT_of 143 (by decide +kernel) (by decide +kernel)
theorem zt_144 : (Cond.fieldLink "CordCart$Floor" (47 : Nat) "CordCart$Floor" "turnUnits" "I") ∈ zT := zT_of 144 (by decide +kernel) (by decide +kernel)
theorem zt_158 : (Cond.classLink "CordCart" (30 : Nat) "CordCart$Weight") ∈ zT := zT_of 158 (by decide +kernel) (by decide +kernel)
theorem zt_159 : (Cond.instantiable "CordCart$Weight" (4 : Nat)) ∈ zT := zT_of 159 (by decide +kernel) (by decide +kernel)
theorem zt_161 : (Cond.instanceMethod ({ cls := "CordCart$Weight", name := "<init>", desc := "()V" } : MethodName)) ∈ zT := zT_of 161 (by decide +kernel) (by decide +kernel)
theorem zt_163 : (Cond.methodLink "CordCart$Weight" (3 : Nat) ({ cls := "java/lang/Object", name := "<init>", desc := "()V" } : MethodName)) ∈ zT := zT_of 163 (by decide +kernel) (by decide +kernel)
theorem zt_164 : (Cond.fieldLink "CordCart$Weight" (9 : Nat) "CordCart$Weight" "sand" "[I") ∈ zT := zT_of 164 (by decide +kernel) (by decide +kernel)
theorem zt_165 : (Cond.fieldLink "CordCart$Weight" (15 : Nat) "CordCart$Weight" "sandCount" "I") ∈ zT := zT_of 165 (by decide +kernel) (by decide +kernel)
theorem zt_166 : (Cond.fieldLink "CordCart$Weight" (19 : Nat) "CordCart$Weight" "hold" "I") ∈ zT := zT_of 166 (by decide +kernel) (by decide +kernel)
theorem zt_167 : (Cond.fieldLink "CordCart$Show" (69 : Nat) "CordCart$Weight" "hold" "I") ∈ zT := zT_of 167 (by decide +kernel) (by decide +kernel)
theorem zt_168 : (Cond.fieldLink "CordCart" (167 : Nat) "CordCart$Weight" "hold" "I") ∈ zT := zT_of 168 (by decide +kernel) (by decide +kernel)
theorem zt_169 : (Cond.fieldLink "CordCart$Weight" (22 : Nat) "CordCart$Weight" "fall" "I") ∈ zT := zT_of 169 (by decide +kernel) (by decide +kernel)
theorem zt_170 : (Cond.fieldLink "CordCart$Show" (50 : Nat) "CordCart$Weight" "fall" "I") ∈ zT := zT_of 170 (by decide +kernel) (by decide +kernel)
theorem zt_171 : (Cond.fieldLink "CordCart$Finds" (112 : Nat) "CordCart$Weight" "fall" "I") ∈ zT := zT_of 171 (by decide +kernel) (by decide +kernel)
theorem zt_172 : (Cond.fieldLink "CordCart" (170 : Nat) "CordCart$Weight" "fall" "I") ∈ zT := zT_of 172 (by decide +kernel) (by decide +kernel)
theorem zt_182 : (Cond.classLink "CordCart" (37 : Nat) "CordCart$Run") ∈ zT := zT_of 182 (by decide +kernel) (by decide +kernel)
theorem zt_183 : (Cond.instantiable "CordCart$Run" (9 : Nat)) ∈ zT := zT_of 183 (by decide +kernel) (by decide +kernel)
theorem zt_184 : (Cond.methodLink "CordCart" (39 : Nat) ({ cls := "CordCart$Run", name := "<init>", desc := "(LCordCart$Cart;LCordCart$Pose;)V" } : MethodName)) ∈ zT := zT_of 184 (by decide +kernel) (by decide +kernel)
theorem zt_185 : (Cond.instanceMethod ({ cls := "CordCart$Run", name := "<init>", desc := "(LCordCart$Cart;LCordCart$Pose;)V" } : MethodName)) ∈ zT := zT_of 185 (by decide +kernel) (by decide +kernel)
theorem zt_187 : (Cond.methodLink "CordCart$Run" (3 : Nat) ({ cls := "java/lang/Object", name := "<init>", desc := "()V" } : MethodName)) ∈ zT := zT_of 187 (by decide +kernel) (by decide +kernel)
theorem zt_188 : (Cond.classLink "CordCart$Run" (9 : Nat) "CordCart$Pose") ∈ zT := zT_of 188 (by decide +kernel) (by decide +kernel)
theorem zt_190 : (Cond.classLink "CordCart$Run" (18 : Nat) "[[I") ∈ zT := zT_of 190 (by decide +kernel) (by decide +kernel)
theorem zt_192 : (Cond.fieldLink "CordCart$Run" (34 : Nat) "CordCart$Run" "cart" "LCordCart$Cart;") ∈ zT := zT_of 192 (by decide +kernel) (by decide +kernel)
theorem zt_193 : (Cond.fieldLink "CordCart$Show" (113 : Nat) "CordCart$Run" "cart" "LCordCart$Cart;") ∈ zT := zT_of 193 (by decide +kernel) (by decide +kernel)
theorem zt_194 : (Cond.fieldLink "CordCart$Finds" (86 : Nat) "CordCart$Run" "cart" "LCordCart$Cart;") ∈ zT := zT_of 194 (by decide +kernel) (by decide +kernel)
theorem zt_195 : (Cond.fieldLink "CordCart$Run" (38 : Nat) "CordCart$Run" "start" "LCordCart$Pose;") ∈ zT := zT_of 195 (by decide +kernel) (by decide +kernel)
theorem zt_196 : (Cond.fieldLink "CordCart$Run" (12 : Nat) "CordCart$Run" "pose" "LCordCart$Pose;") ∈ zT := zT_of 196 (by decide +kernel) (by decide +kernel)
theorem zt_197 : (Cond.fieldLink "CordCart$Show" (76 : Nat) "CordCart$Run" "pose" "LCordCart$Pose;") ∈ zT := zT_of 197 (by decide +kernel) (by decide +kernel)
theorem zt_198 : (Cond.fieldLink "CordCart$Finds" (126 : Nat) "CordCart$Run" "pose" "LCordCart$Pose;") ∈ zT := zT_of 198 (by decide +kernel) (by decide +kernel)
theorem zt_199 : (Cond.fieldLink "CordCart" (249 : Nat) "CordCart$Run" "pose" "LCordCart$Pose;") ∈ zT := zT_of 199 (by decide +kernel) (by decide +kernel)
theorem zt_200 : (Cond.fieldLink "CordCart$Run" (20 : Nat) "CordCart$Run" "kinds" "[[I") ∈ zT := zT_of 200 (by decide +kernel) (by decide +kernel)
theorem zt_201 : (Cond.fieldLink "CordCart$Show" (146 : Nat) "CordCart$Run" "kinds" "[[I") ∈ zT := zT_of 201 (by decide +kernel) (by decide +kernel)
theorem zt_202 : (Cond.fieldLink "CordCart$Finds" (75 : Nat) "CordCart$Run" "kinds" "[[I") ∈ zT := zT_of 202 (by decide +kernel) (by decide +kernel)
theorem zt_203 : (Cond.fieldLink "CordCart$Run" (23 : Nat) "CordCart$Run" "places" "[I") ∈ zT := zT_of 203 (by decide +kernel) (by decide +kernel)
theorem zt_204 : (Cond.fieldLink "CordCart$Show" (129 : Nat) "CordCart$Run" "places" "[I") ∈ zT := zT_of 204 (by decide +kernel) (by decide +kernel)
theorem zt_205 : (Cond.fieldLink "CordCart$Run" (27 : Nat) "CordCart$Run" "lefts" "[I") ∈ zT := zT_of 205 (by decide +kernel) (by decide +kernel)
theorem zt_206 : (Cond.fieldLink "CordCart$Show" (47 : Nat) "CordCart$Run" "unit" "I") ∈ zT := zT_of 206 (by decide +kernel) (by decide +kernel)
theorem zt_207 : (Cond.fieldLink "CordCart$Run" (61 : Nat) "CordCart$Run" "unit" "I") ∈ zT := zT_of 207 (by decide +kernel) (by decide +kernel)
theorem zt_208 : (Cond.fieldLink "CordCart$Run" (30 : Nat) "CordCart$Run" "hasEnded" "[Z") ∈ zT := zT_of 208 (by decide +kernel) (by decide +kernel)
theorem zt_209 : (Cond.fieldLink "CordCart$Show" (133 : Nat) "CordCart$Run" "hasEnded" "[Z") ∈ zT := zT_of 209 (by decide +kernel) (by decide +kernel)
theorem zt_210 : (Cond.fieldLink "CordCart$Show" (110 : Nat) "CordCart$Run" "drumTurn" "I") ∈ zT := zT_of 210 (by decide +kernel) (by decide +kernel)
theorem zt_211 : (Cond.fieldLink "CordCart$Run" (91 : Nat) "CordCart$Run" "drumTurn" "I") ∈ zT := zT_of 211 (by decide +kernel) (by decide +kernel)
theorem zt_231 : (Cond.classLink "CordCart" (46 : Nat) "CordCart$Show") ∈ zT := zT_of 231 (by decide +kernel) (by decide +kernel)
theorem zt_232 : (Cond.instantiable "CordCart$Show" (8 : Nat)) ∈ zT := zT_of 232 (by decide +kernel) (by decide +kernel)
theorem zt_234 : (Cond.instanceMethod ({ cls := "CordCart$Show", name := "<init>", desc := "()V" } : MethodName)) ∈ zT := zT_of 234 (by decide +kernel) (by decide +kernel)
theorem zt_236 : (Cond.methodLink "CordCart$Show" (3 : Nat) ({ cls := "java/lang/Object", name := "<init>", desc := "()V" } : MethodName)) ∈ zT := zT_of 236 (by decide +kernel) (by decide +kernel)
theorem zt_237 : (Cond.classLink "CordCart$Show" (9 : Nat) "CordCart$Pose") ∈ zT := zT_of 237 (by decide +kernel) (by decide +kernel)
theorem zt_239 : (Cond.classLink "CordCart$Show" (18 : Nat) "[[I") ∈ zT := zT_of 239 (by decide +kernel) (by decide +kernel)
theorem zt_240 : (Cond.fieldLink "CordCart$Show" (81 : Nat) "CordCart$Show" "isKept" "Z") ∈ zT := zT_of 240 (by decide +kernel) (by decide +kernel)
theorem zt_241 : (Cond.fieldLink "CordCart" (191 : Nat) "CordCart$Show" "isKept" "Z") ∈ zT := zT_of 241 (by decide +kernel) (by decide +kernel)
theorem zt_242 : (Cond.fieldLink "CordCart$Show" (12 : Nat) "CordCart$Show" "pose" "LCordCart$Pose;") ∈ zT := zT_of 242 (by decide +kernel) (by decide +kernel)
theorem zt_243 : (Cond.fieldLink "CordCart" (212 : Nat) "CordCart$Show" "pose" "LCordCart$Pose;") ∈ zT := zT_of 243 (by decide +kernel) (by decide +kernel)
theorem zt_244 : (Cond.fieldLink "CordCart$Show" (44 : Nat) "CordCart$Show" "ticks" "I") ∈ zT := zT_of 244 (by decide +kernel) (by decide +kernel)
theorem zt_245 : (Cond.fieldLink "CordCart" (200 : Nat) "CordCart$Show" "ticks" "I") ∈ zT := zT_of 245 (by decide +kernel) (by decide +kernel)
theorem zt_246 : (Cond.fieldLink "CordCart$Show" (20 : Nat) "CordCart$Show" "acts" "[[I") ∈ zT := zT_of 246 (by decide +kernel) (by decide +kernel)
theorem zt_247 : (Cond.fieldLink "CordCart" (222 : Nat) "CordCart$Show" "acts" "[[I") ∈ zT := zT_of 247 (by decide +kernel) (by decide +kernel)
theorem zt_248 : (Cond.fieldLink "CordCart$Show" (26 : Nat) "CordCart$Show" "noted" "I") ∈ zT := zT_of 248 (by decide +kernel) (by decide +kernel)
theorem zt_249 : (Cond.fieldLink "CordCart" (203 : Nat) "CordCart$Show" "noted" "I") ∈ zT := zT_of 249 (by decide +kernel) (by decide +kernel)
theorem zt_250 : (Cond.fieldLink "CordCart$Show" (23 : Nat) "CordCart$Show" "slips" "[[I") ∈ zT := zT_of 250 (by decide +kernel) (by decide +kernel)
theorem zt_251 : (Cond.fieldLink "CordCart" (232 : Nat) "CordCart$Show" "slips" "[[I") ∈ zT := zT_of 251 (by decide +kernel) (by decide +kernel)
theorem zt_252 : (Cond.fieldLink "CordCart$Show" (30 : Nat) "CordCart$Show" "slipCount" "I") ∈ zT := zT_of 252 (by decide +kernel) (by decide +kernel)
theorem zt_253 : (Cond.fieldLink "CordCart" (206 : Nat) "CordCart$Show" "slipCount" "I") ∈ zT := zT_of 253 (by decide +kernel) (by decide +kernel)
theorem zt_254 : (Cond.fieldLink "CordCart$Show" (33 : Nat) "CordCart$Show" "strayUnits" "I") ∈ zT := zT_of 254 (by decide +kernel) (by decide +kernel)
theorem zt_255 : (Cond.fieldLink "CordCart" (209 : Nat) "CordCart$Show" "strayUnits" "I") ∈ zT := zT_of 255 (by decide +kernel) (by decide +kernel)
theorem zt_273 : (Cond.classLink "CordCart" (53 : Nat) "CordCart$Wish") ∈ zT := zT_of 273 (by decide +kernel) (by decide +kernel)
theorem zt_274 : (Cond.instantiable "CordCart$Wish" (10 : Nat)) ∈ zT := zT_of 274 (by decide +kernel) (by decide +kernel)
theorem zt_275 : (Cond.methodLink "CordCart" (55 : Nat) ({ cls := "CordCart$Wish", name := "<init>", desc := "(LCordCart$Floor;)V" } : MethodName)) ∈ zT := zT_of 275 (by decide +kernel) (by decide +kernel)
theorem zt_276 : (Cond.instanceMethod ({ cls := "CordCart$Wish", name := "<init>", desc := "(LCordCart$Floor;)V" } : MethodName)) ∈ zT := zT_of 276 (by decide +kernel) (by decide +kernel)
theorem zt_278 : (Cond.methodLink "CordCart$Wish" (3 : Nat) ({ cls := "java/lang/Object", name := "<init>", desc := "()V" } : MethodName)) ∈ zT := zT_of 278 (by decide +kernel) (by decide +kernel)
theorem zt_279 : (Cond.classLink "CordCart$Wish" (9 : Nat) "[[I") ∈ zT := zT_of 279 (by decide +kernel) (by decide +kernel)
theorem zt_280 : (Cond.classLink "CordCart$Wish" (16 : Nat) "CordCart$Cord") ∈ zT := zT_of 280 (by decide +kernel) (by decide +kernel)
theorem zt_282 : (Cond.fieldLink "CordCart$Wish" (22 : Nat) "CordCart$Wish" "floor" "LCordCart$Floor;") ∈ zT := zT_of 282 (by decide +kernel) (by decide +kernel)
theorem zt_283 : (Cond.fieldLink "CordCart$Wish" (27 : Nat) "CordCart$Wish" "count" "I") ∈ zT := zT_of 283 (by decide +kernel) (by decide +kernel)
theorem zt_284 : (Cond.fieldLink "CordCart" (253 : Nat) "CordCart$Wish" "count" "I") ∈ zT := zT_of 284 (by decide +kernel) (by decide +kernel)
theorem zt_285 : (Cond.fieldLink "CordCart$Wish" (11 : Nat) "CordCart$Wish" "parts" "[[I") ∈ zT := zT_of 285 (by decide +kernel) (by decide +kernel)
theorem zt_286 : (Cond.fieldLink "CordCart$Wish" (18 : Nat) "CordCart$Wish" "windings" "[LCordCart$Cord;") ∈ zT := zT_of 286 (by decide +kernel) (by decide +kernel)
theorem zt_287 : (Cond.fieldLink "CordCart" (262 : Nat) "CordCart$Wish" "windings" "[LCordCart$Cord;") ∈ zT := zT_of 287 (by decide +kernel) (by decide +kernel)
theorem zt_288 : (Cond.fieldLink "CordCart$Wish" (32 : Nat) "CordCart$Wish" "isOverfull" "Z") ∈ zT := zT_of 288 (by decide +kernel) (by decide +kernel)
theorem zt_289 : (Cond.fieldLink "CordCart" (367 : Nat) "CordCart$Wish" "isOverfull" "Z") ∈ zT := zT_of 289 (by decide +kernel) (by decide +kernel)
theorem zt_290 : (Cond.fieldLink "CordCart$Wish" (36 : Nat) "CordCart$Wish" "units" "I") ∈ zT := zT_of 290 (by decide +kernel) (by decide +kernel)
theorem zt_291 : (Cond.fieldLink "CordCart$Wish" (45 : Nat) "CordCart$Wish" "x" "I") ∈ zT := zT_of 291 (by decide +kernel) (by decide +kernel)
theorem zt_292 : (Cond.fieldLink "CordCart$Wish" (51 : Nat) "CordCart$Wish" "y" "I") ∈ zT := zT_of 292 (by decide +kernel) (by decide +kernel)
theorem zt_293 : (Cond.fieldLink "CordCart$Wish" (57 : Nat) "CordCart$Wish" "quarter" "I") ∈ zT := zT_of 293 (by decide +kernel) (by decide +kernel)
theorem zt_294 : (Cond.fieldLink "CordCart$Wish" (60 : Nat) "CordCart$Wish" "turnUnits" "I") ∈ zT := zT_of 294 (by decide +kernel) (by decide +kernel)
theorem zt_316 : (Cond.classLink "CordCart" (62 : Nat) "CordCart$Finds") ∈ zT := zT_of 316 (by decide +kernel) (by decide +kernel)
theorem zt_317 : (Cond.instantiable "CordCart$Finds" (12 : Nat)) ∈ zT := zT_of 317 (by decide +kernel) (by decide +kernel)
theorem zt_318 : (Cond.methodLink "CordCart" (64 : Nat) ({ cls := "CordCart$Finds", name := "<init>", desc := "(LCordCart$Run;LCordCart$Weight;)V" } : MethodName)) ∈ zT := zT_of 318 (by decide +kernel) (by decide +kernel)
theorem zt_319 : (Cond.instanceMethod ({ cls := "CordCart$Finds", name := "<init>", desc := "(LCordCart$Run;LCordCart$Weight;)V" } : MethodName)) ∈ zT := zT_of 319 (by decide +kernel) (by decide +kernel)
theorem zt_321 : (Cond.methodLink "CordCart$Finds" (3 : Nat) ({ cls := "java/lang/Object", name := "<init>", desc := "()V" } : MethodName)) ∈ zT := zT_of 321 (by decide +kernel) (by decide +kernel)
theorem zt_322 : (Cond.classLink "CordCart$Finds" (9 : Nat) "[[I") ∈ zT := zT_of 322 (by decide +kernel) (by decide +kernel)
theorem zt_323 : (Cond.fieldLink "CordCart$Finds" (32 : Nat) "CordCart$Finds" "run" "LCordCart$Run;") ∈ zT := zT_of 323 (by decide +kernel) (by decide +kernel)
theorem zt_324 : (Cond.fieldLink "CordCart$Finds" (36 : Nat) "CordCart$Finds" "weight" "LCordCart$Weight;") ∈ zT := zT_of 324 (by decide +kernel) (by decide +kernel)
theorem zt_325 : (Cond.fieldLink "CordCart$Finds" (40 : Nat) "CordCart$Finds" "spots" "I") ∈ zT := zT_of 325 (by decide +kernel) (by decide +kernel)
theorem zt_326 : (Cond.fieldLink "CordCart" (269 : Nat) "CordCart$Finds" "spots" "I") ∈ zT := zT_of 326 (by decide +kernel) (by decide +kernel)
theorem zt_327 : (Cond.fieldLink "CordCart$Finds" (11 : Nat) "CordCart$Finds" "spot" "[[I") ∈ zT := zT_of 327 (by decide +kernel) (by decide +kernel)
theorem zt_328 : (Cond.fieldLink "CordCart$Finds" (68 : Nat) "CordCart$Finds" "gaps" "I") ∈ zT := zT_of 328 (by decide +kernel) (by decide +kernel)
theorem zt_329 : (Cond.fieldLink "CordCart$Finds" (16 : Nat) "CordCart$Finds" "gapAxles" "[I") ∈ zT := zT_of 329 (by decide +kernel) (by decide +kernel)
theorem zt_330 : (Cond.fieldLink "CordCart$Finds" (20 : Nat) "CordCart$Finds" "gapPlaces" "[I") ∈ zT := zT_of 330 (by decide +kernel) (by decide +kernel)
theorem zt_331 : (Cond.fieldLink "CordCart$Finds" (103 : Nat) "CordCart$Finds" "slips" "I") ∈ zT := zT_of 331 (by decide +kernel) (by decide +kernel)
theorem zt_332 : (Cond.fieldLink "CordCart$Finds" (23 : Nat) "CordCart$Finds" "slipAxles" "[I") ∈ zT := zT_of 332 (by decide +kernel) (by decide +kernel)
theorem zt_333 : (Cond.fieldLink "CordCart$Finds" (26 : Nat) "CordCart$Finds" "slipPlaces" "[I") ∈ zT := zT_of 333 (by decide +kernel) (by decide +kernel)
theorem zt_334 : (Cond.fieldLink "CordCart$Finds" (29 : Nat) "CordCart$Finds" "found" "[I") ∈ zT := zT_of 334 (by decide +kernel) (by decide +kernel)
theorem zt_335 : (Cond.fieldLink "CordCart$Finds" (60 : Nat) "CordCart$Finds" "foundCount" "I") ∈ zT := zT_of 335 (by decide +kernel) (by decide +kernel)
theorem zt_336 : (Cond.fieldLink "CordCart" (281 : Nat) "CordCart$Finds" "foundCount" "I") ∈ zT := zT_of 336 (by decide +kernel) (by decide +kernel)
theorem zt_362 : (Cond.classLink "CordCart" (71 : Nat) "CordCart$Tape") ∈ zT := zT_of 362 (by decide +kernel) (by decide +kernel)
theorem zt_364 : (Cond.instantiable "CordCart$Tape" (4 : Nat)) ∈ zT := zT_of 364 (by decide +kernel) (by decide +kernel)
theorem zt_366 : (Cond.instanceMethod ({ cls := "CordCart$Tape", name := "<init>", desc := "()V" } : MethodName)) ∈ zT := zT_of 366 (by decide +kernel) (by decide +kernel)
theorem zt_368 : (Cond.methodLink "CordCart$Tape" (3 : Nat) ({ cls := "java/lang/Object", name := "<init>", desc := "()V" } : MethodName)) ∈ zT := zT_of 368 (by decide +kernel) (by decide +kernel)
theorem zt_369 : (Cond.classLink "CordCart$Tape" (15 : Nat) "CordCart$Cart") ∈ zT := zT_of 369 (by decide +kernel) (by decide +kernel)
theorem zt_370 : (Cond.methodLink "CordCart$Tape" (17 : Nat) ({ cls := "CordCart$Cart", name := "<init>", desc := "()V" } : MethodName)) ∈ zT := zT_of 370 (by decide +kernel) (by decide +kernel)
theorem zt_371 : (Cond.fieldLink "CordCart$Tape" (22 : Nat) "CordCart$Tape" "sort" "I") ∈ zT := zT_of 371 (by decide +kernel) (by decide +kernel)
theorem zt_372 : (Cond.fieldLink "CordCart" (146 : Nat) "CordCart$Tape" "sort" "I") ∈ zT := zT_of 372 (by decide +kernel) (by decide +kernel)
theorem zt_373 : (Cond.fieldLink "CordCart$Tape" (26 : Nat) "CordCart$Tape" "size" "I") ∈ zT := zT_of 373 (by decide +kernel) (by decide +kernel)
theorem zt_374 : (Cond.fieldLink "CordCart" (152 : Nat) "CordCart$Tape" "size" "I") ∈ zT := zT_of 374 (by decide +kernel) (by decide +kernel)
theorem zt_375 : (Cond.fieldLink "CordCart$Tape" (9 : Nat) "CordCart$Tape" "elements" "[J") ∈ zT := zT_of 375 (by decide +kernel) (by decide +kernel)
theorem zt_376 : (Cond.fieldLink "CordCart" (155 : Nat) "CordCart$Tape" "elements" "[J") ∈ zT := zT_of 376 (by decide +kernel) (by decide +kernel)
theorem zt_377 : (Cond.fieldLink "CordCart$Tape" (18 : Nat) "CordCart$Tape" "cart" "LCordCart$Cart;") ∈ zT := zT_of 377 (by decide +kernel) (by decide +kernel)
theorem zt_378 : (Cond.fieldLink "CordCart" (307 : Nat) "CordCart$Tape" "cart" "LCordCart$Cart;") ∈ zT := zT_of 378 (by decide +kernel) (by decide +kernel)
theorem zt_388 : (Cond.arrayClass FieldType.long) ∈ zT := zT_of 388 (by decide +kernel) (by decide +kernel)
theorem zt_389 : (Cond.methodLink "CordCart" (78 : Nat) ({ cls := "CordCart", name := "reset", desc := "()V" } : MethodName)) ∈ zT := zT_of 389 (by decide +kernel) (by decide +kernel)
theorem zt_391 : (Cond.instanceMethod ({ cls := "CordCart", name := "reset", desc := "()V" } : MethodName)) ∈ zT := zT_of 391 (by decide +kernel) (by decide +kernel)
theorem zt_393 : (Cond.methodLink "CordCart" (347 : Nat) ({ cls := "CordCart$Cart", name := "strip", desc := "()V" } : MethodName)) ∈ zT := zT_of 393 (by decide +kernel) (by decide +kernel)
theorem zt_394 : (Cond.instanceMethod ({ cls := "CordCart$Cart", name := "strip", desc := "()V" } : MethodName)) ∈ zT := zT_of 394 (by decide +kernel) (by decide +kernel)
theorem zt_395 : (Cond.selects "CordCart$Cart" ({ cls := "CordCart$Cart", name := "strip", desc := "()V" } : MethodName) ({ cls := "CordCart$Cart", name := "strip", desc := "()V" } : MethodName)) ∈ zT := zT_of 395 (by decide +kernel) (by decide +kernel)
theorem zt_397 : (Cond.methodLink "CordCart$Cart" (26 : Nat) ({ cls := "java/util/Arrays", name := "fill", desc := "([II)V" } : MethodName)) ∈ zT := zT_of 397 (by decide +kernel) (by decide +kernel)
theorem zt_398 : (Cond.static ({ cls := "java/util/Arrays", name := "fill", desc := "([II)V" } : MethodName)) ∈ zT := zT_of 398 (by decide +kernel) (by decide +kernel)
theorem zt_400 : (Cond.methodLink "CordCart" (350 : Nat) ({ cls := "CordCart$Floor", name := "free", desc := "()V" } : MethodName)) ∈ zT := zT_of 400 (by decide +kernel) (by decide +kernel)
theorem zt_401 : (Cond.instanceMethod ({ cls := "CordCart$Floor", name := "free", desc := "()V" } : MethodName)) ∈ zT := zT_of 401 (by decide +kernel) (by decide +kernel)
theorem zt_402 : (Cond.selects "CordCart$Floor" ({ cls := "CordCart$Floor", name := "free", desc := "()V" } : MethodName) ({ cls := "CordCart$Floor", name := "free", desc := "()V" } : MethodName)) ∈ zT := zT_of 402 (by decide +kernel) (by decide +kernel)
theorem zt_404 : (Cond.methodLink "CordCart" (134 : Nat) ({ cls := "CordCart$Pose", name := "place", desc := "(III)V" } : MethodName)) ∈ zT := zT_of 404 (by decide +kernel) (by decide +kernel)
theorem zt_405 : (Cond.instanceMethod ({ cls := "CordCart$Pose", name := "place", desc := "(III)V" } : MethodName)) ∈ zT := zT_of 405 (by decide +kernel) (by decide +kernel)
theorem zt_406 : (Cond.selects "CordCart$Pose" ({ cls := "CordCart$Pose", name := "place", desc := "(III)V" } : MethodName) ({ cls := "CordCart$Pose", name := "place", desc := "(III)V" } : MethodName)) ∈ zT := zT_of 406 (by decide +kernel) (by decide +kernel)
theorem zt_408 : (Cond.methodLink "CordCart" (353 : Nat) ({ cls := "CordCart$Weight", name := "reset", desc := "()V" } : MethodName)) ∈ zT := zT_of 408 (by decide +kernel) (by decide +kernel)
theorem zt_409 : (Cond.instanceMethod ({ cls := "CordCart$Weight", name := "reset", desc := "()V" } : MethodName)) ∈ zT := zT_of 409 (by decide +kernel) (by decide +kernel)
theorem zt_410 : (Cond.selects "CordCart$Weight" ({ cls := "CordCart$Weight", name := "reset", desc := "()V" } : MethodName) ({ cls := "CordCart$Weight", name := "reset", desc := "()V" } : MethodName)) ∈ zT := zT_of 410 (by decide +kernel) (by decide +kernel)
theorem zt_412 : (Cond.fieldLink "CordCart" (12 : Nat) "CordCart" "cart" "LCordCart$Cart;") ∈ zT := zT_of 412 (by decide +kernel) (by decide +kernel)
theorem zt_413 : (Cond.fieldLink "CordCart" (19 : Nat) "CordCart" "start" "LCordCart$Pose;") ∈ zT := zT_of 413 (by decide +kernel) (by decide +kernel)
theorem zt_414 : (Cond.fieldLink "CordCart" (26 : Nat) "CordCart" "floor" "LCordCart$Floor;") ∈ zT := zT_of 414 (by decide +kernel) (by decide +kernel)
theorem zt_415 : (Cond.fieldLink "CordCart" (33 : Nat) "CordCart" "weight" "LCordCart$Weight;") ∈ zT := zT_of 415 (by decide +kernel) (by decide +kernel)
theorem zt_416 : (Cond.fieldLink "CordCart" (42 : Nat) "CordCart" "run" "LCordCart$Run;") ∈ zT := zT_of 416 (by decide +kernel) (by decide +kernel)
theorem zt_417 : (Cond.fieldLink "CordCart" (49 : Nat) "CordCart" "show" "LCordCart$Show;") ∈ zT := zT_of 417 (by decide +kernel) (by decide +kernel)
theorem zt_418 : (Cond.fieldLink "CordCart" (58 : Nat) "CordCart" "wish" "LCordCart$Wish;") ∈ zT := zT_of 418 (by decide +kernel) (by decide +kernel)
theorem zt_419 : (Cond.fieldLink "CordCart" (67 : Nat) "CordCart" "finds" "LCordCart$Finds;") ∈ zT := zT_of 419 (by decide +kernel) (by decide +kernel)
theorem zt_420 : (Cond.fieldLink "CordCart" (73 : Nat) "CordCart" "tapes" "[LCordCart$Tape;") ∈ zT := zT_of 420 (by decide +kernel) (by decide +kernel)
theorem zt_421 : (Cond.fieldLink "CordCart" (344 : Nat) "CordCart" "hostRefusals" "I") ∈ zT := zT_of 421 (by decide +kernel) (by decide +kernel)
theorem zt_443 : (Cond.methodLink "CordCartLaw" (32 : Nat) ({ cls := "CordCart", name := "begin", desc := "()I" } : MethodName)) ∈ zT := zT_of 443 (by decide +kernel) (by decide +kernel)
theorem zt_444 : (Cond.instanceMethod ({ cls := "CordCart", name := "begin", desc := "()I" } : MethodName)) ∈ zT := zT_of 444 (by decide +kernel) (by decide +kernel)
theorem zt_445 : (Cond.selects "CordCart" ({ cls := "CordCart", name := "begin", desc := "()I" } : MethodName) ({ cls := "CordCart", name := "begin", desc := "()I" } : MethodName)) ∈ zT := zT_of 445 (by decide +kernel) (by decide +kernel)
theorem zt_447 : (Cond.methodLink "CordCartLaw" (37 : Nat) ({ cls := "CordCart", name := "wind", desc := "(IIII)I" } : MethodName)) ∈ zT := zT_of 447 (by decide +kernel) (by decide +kernel)
theorem zt_448 : (Cond.instanceMethod ({ cls := "CordCart", name := "wind", desc := "(IIII)I" } : MethodName)) ∈ zT := zT_of 448 (by decide +kernel) (by decide +kernel)
theorem zt_449 : (Cond.selects "CordCart" ({ cls := "CordCart", name := "wind", desc := "(IIII)I" } : MethodName) ({ cls := "CordCart", name := "wind", desc := "(IIII)I" } : MethodName)) ∈ zT := zT_of 449 (by decide +kernel) (by decide +kernel)
theorem zt_451 : (Cond.methodLink "CordCart" (81 : Nat) ({ cls := "CordCart", name := "isAxle", desc := "(I)Z" } : MethodName)) ∈ zT := zT_of 451 (by decide +kernel) (by decide +kernel)
theorem zt_452 : (Cond.static ({ cls := "CordCart", name := "isAxle", desc := "(I)Z" } : MethodName)) ∈ zT := zT_of 452 (by decide +kernel) (by decide +kernel)
theorem zt_454 : (Cond.methodLink "CordCart" (85 : Nat) ({ cls := "CordCart", name := "isIn", desc := "(III)Z" } : MethodName)) ∈ zT := zT_of 454 (by decide +kernel) (by decide +kernel)
theorem zt_455 : (Cond.static ({ cls := "CordCart", name := "isIn", desc := "(III)Z" } : MethodName)) ∈ zT := zT_of 455 (by decide +kernel) (by decide +kernel)
theorem zt_457 : (Cond.methodLink "CordCart" (99 : Nat) ({ cls := "CordCart$Cord", name := "add", desc := "(III)V" } : MethodName)) ∈ zT := zT_of 457 (by decide +kernel) (by decide +kernel)
theorem zt_458 : (Cond.instanceMethod ({ cls := "CordCart$Cord", name := "add", desc := "(III)V" } : MethodName)) ∈ zT := zT_of 458 (by decide +kernel) (by decide +kernel)
theorem zt_459 : (Cond.selects "CordCart$Cord" ({ cls := "CordCart$Cord", name := "add", desc := "(III)V" } : MethodName) ({ cls := "CordCart$Cord", name := "add", desc := "(III)V" } : MethodName)) ∈ zT := zT_of 459 (by decide +kernel) (by decide +kernel)
theorem zt_461 : (Cond.methodLink "CordCartLaw" (42 : Nat) ({ cls := "CordCart", name := "unwind", desc := "(I)I" } : MethodName)) ∈ zT := zT_of 461 (by decide +kernel) (by decide +kernel)
theorem zt_462 : (Cond.instanceMethod ({ cls := "CordCart", name := "unwind", desc := "(I)I" } : MethodName)) ∈ zT := zT_of 462 (by decide +kernel) (by decide +kernel)
theorem zt_463 : (Cond.selects "CordCart" ({ cls := "CordCart", name := "unwind", desc := "(I)I" } : MethodName) ({ cls := "CordCart", name := "unwind", desc := "(I)I" } : MethodName)) ∈ zT := zT_of 463 (by decide +kernel) (by decide +kernel)
theorem zt_465 : (Cond.methodLink "CordCartLaw" (46 : Nat) ({ cls := "CordCart", name := "segment", desc := "(III)I" } : MethodName)) ∈ zT := zT_of 465 (by decide +kernel) (by decide +kernel)
theorem zt_466 : (Cond.instanceMethod ({ cls := "CordCart", name := "segment", desc := "(III)I" } : MethodName)) ∈ zT := zT_of 466 (by decide +kernel) (by decide +kernel)
theorem zt_467 : (Cond.selects "CordCart" ({ cls := "CordCart", name := "segment", desc := "(III)I" } : MethodName) ({ cls := "CordCart", name := "segment", desc := "(III)I" } : MethodName)) ∈ zT := zT_of 467 (by decide +kernel) (by decide +kernel)
theorem zt_469 : (Cond.methodLink "CordCart" (103 : Nat) ({ cls := "CordCart$Cord", name := "has", desc := "(I)Z" } : MethodName)) ∈ zT := zT_of 469 (by decide +kernel) (by decide +kernel)
theorem zt_470 : (Cond.instanceMethod ({ cls := "CordCart$Cord", name := "has", desc := "(I)Z" } : MethodName)) ∈ zT := zT_of 470 (by decide +kernel) (by decide +kernel)
theorem zt_471 : (Cond.selects "CordCart$Cord" ({ cls := "CordCart$Cord", name := "has", desc := "(I)Z" } : MethodName) ({ cls := "CordCart$Cord", name := "has", desc := "(I)Z" } : MethodName)) ∈ zT := zT_of 471 (by decide +kernel) (by decide +kernel)
theorem zt_473 : (Cond.methodLink "CordCartLaw" (51 : Nat) ({ cls := "CordCart", name := "hard", desc := "(I)I" } : MethodName)) ∈ zT := zT_of 473 (by decide +kernel) (by decide +kernel)
theorem zt_474 : (Cond.instanceMethod ({ cls := "CordCart", name := "hard", desc := "(I)I" } : MethodName)) ∈ zT := zT_of 474 (by decide +kernel) (by decide +kernel)
theorem zt_475 : (Cond.selects "CordCart" ({ cls := "CordCart", name := "hard", desc := "(I)I" } : MethodName) ({ cls := "CordCart", name := "hard", desc := "(I)I" } : MethodName)) ∈ zT := zT_of 475 (by decide +kernel) (by decide +kernel)
theorem zt_477 : (Cond.methodLink "CordCartLaw" (55 : Nat) ({ cls := "CordCart", name := "peg", desc := "(II)I" } : MethodName)) ∈ zT := zT_of 477 (by decide +kernel) (by decide +kernel)
theorem zt_478 : (Cond.instanceMethod ({ cls := "CordCart", name := "peg", desc := "(II)I" } : MethodName)) ∈ zT := zT_of 478 (by decide +kernel) (by decide +kernel)
theorem zt_479 : (Cond.selects "CordCart" ({ cls := "CordCart", name := "peg", desc := "(II)I" } : MethodName) ({ cls := "CordCart", name := "peg", desc := "(II)I" } : MethodName)) ∈ zT := zT_of 479 (by decide +kernel) (by decide +kernel)
theorem zt_481 : (Cond.methodLink "CordCart" (119 : Nat) ({ cls := "CordCart$Cart", name := "actAt", desc := "(I)I" } : MethodName)) ∈ zT := zT_of 481 (by decide +kernel) (by decide +kernel)
theorem zt_482 : (Cond.instanceMethod ({ cls := "CordCart$Cart", name := "actAt", desc := "(I)I" } : MethodName)) ∈ zT := zT_of 482 (by decide +kernel) (by decide +kernel)
theorem zt_483 : (Cond.selects "CordCart$Cart" ({ cls := "CordCart$Cart", name := "actAt", desc := "(I)I" } : MethodName) ({ cls := "CordCart$Cart", name := "actAt", desc := "(I)I" } : MethodName)) ∈ zT := zT_of 483 (by decide +kernel) (by decide +kernel)
theorem zt_486 : (Cond.methodLink "CordCart" (126 : Nat) ({ cls := "CordCart$Cart", name := "setAct", desc := "(II)V" } : MethodName)) ∈ zT := zT_of 486 (by decide +kernel) (by decide +kernel)
theorem zt_487 : (Cond.instanceMethod ({ cls := "CordCart$Cart", name := "setAct", desc := "(II)V" } : MethodName)) ∈ zT := zT_of 487 (by decide +kernel) (by decide +kernel)
theorem zt_488 : (Cond.selects "CordCart$Cart" ({ cls := "CordCart$Cart", name := "setAct", desc := "(II)V" } : MethodName) ({ cls := "CordCart$Cart", name := "setAct", desc := "(II)V" } : MethodName)) ∈ zT := zT_of 488 (by decide +kernel) (by decide +kernel)
theorem zt_490 : (Cond.methodLink "CordCartLaw" (59 : Nat) ({ cls := "CordCart", name := "start", desc := "(III)I" } : MethodName)) ∈ zT := zT_of 490 (by decide +kernel) (by decide +kernel)
theorem zt_491 : (Cond.instanceMethod ({ cls := "CordCart", name := "start", desc := "(III)I" } : MethodName)) ∈ zT := zT_of 491 (by decide +kernel) (by decide +kernel)
theorem zt_492 : (Cond.selects "CordCart" ({ cls := "CordCart", name := "start", desc := "(III)I" } : MethodName) ({ cls := "CordCart", name := "start", desc := "(III)I" } : MethodName)) ∈ zT := zT_of 492 (by decide +kernel) (by decide +kernel)
theorem zt_494 : (Cond.methodLink "CordCart" (130 : Nat) ({ cls := "CordCart", name := "isCell", desc := "(II)Z" } : MethodName)) ∈ zT := zT_of 494 (by decide +kernel) (by decide +kernel)
theorem zt_495 : (Cond.static ({ cls := "CordCart", name := "isCell", desc := "(II)Z" } : MethodName)) ∈ zT := zT_of 495 (by decide +kernel) (by decide +kernel)
theorem zt_497 : (Cond.methodLink "CordCart" (137 : Nat) ({ cls := "CordCart$Floor", name := "isFree", desc := "(II)Z" } : MethodName)) ∈ zT := zT_of 497 (by decide +kernel) (by decide +kernel)
theorem zt_498 : (Cond.instanceMethod ({ cls := "CordCart$Floor", name := "isFree", desc := "(II)Z" } : MethodName)) ∈ zT := zT_of 498 (by decide +kernel) (by decide +kernel)
theorem zt_499 : (Cond.selects "CordCart$Floor" ({ cls := "CordCart$Floor", name := "isFree", desc := "(II)Z" } : MethodName) ({ cls := "CordCart$Floor", name := "isFree", desc := "(II)Z" } : MethodName)) ∈ zT := zT_of 499 (by decide +kernel) (by decide +kernel)
theorem zt_501 : (Cond.methodLink "CordCartLaw" (63 : Nat) ({ cls := "CordCart", name := "block", desc := "(II)I" } : MethodName)) ∈ zT := zT_of 501 (by decide +kernel) (by decide +kernel)
theorem zt_502 : (Cond.instanceMethod ({ cls := "CordCart", name := "block", desc := "(II)I" } : MethodName)) ∈ zT := zT_of 502 (by decide +kernel) (by decide +kernel)
theorem zt_503 : (Cond.selects "CordCart" ({ cls := "CordCart", name := "block", desc := "(II)I" } : MethodName) ({ cls := "CordCart", name := "block", desc := "(II)I" } : MethodName)) ∈ zT := zT_of 503 (by decide +kernel) (by decide +kernel)
theorem zt_505 : (Cond.methodLink "CordCart" (140 : Nat) ({ cls := "CordCart$Floor", name := "change", desc := "(II)V" } : MethodName)) ∈ zT := zT_of 505 (by decide +kernel) (by decide +kernel)
theorem zt_506 : (Cond.instanceMethod ({ cls := "CordCart$Floor", name := "change", desc := "(II)V" } : MethodName)) ∈ zT := zT_of 506 (by decide +kernel) (by decide +kernel)
theorem zt_507 : (Cond.selects "CordCart$Floor" ({ cls := "CordCart$Floor", name := "change", desc := "(II)V" } : MethodName) ({ cls := "CordCart$Floor", name := "change", desc := "(II)V" } : MethodName)) ∈ zT := zT_of 507 (by decide +kernel) (by decide +kernel)
theorem zt_510 : (Cond.methodLink "CordCartLaw" (67 : Nat) ({ cls := "CordCart", name := "sand", desc := "(II)I" } : MethodName)) ∈ zT := zT_of 510 (by decide +kernel) (by decide +kernel)
theorem zt_511 : (Cond.instanceMethod ({ cls := "CordCart", name := "sand", desc := "(II)I" } : MethodName)) ∈ zT := zT_of 511 (by decide +kernel) (by decide +kernel)
theorem zt_512 : (Cond.selects "CordCart" ({ cls := "CordCart", name := "sand", desc := "(II)I" } : MethodName) ({ cls := "CordCart", name := "sand", desc := "(II)I" } : MethodName)) ∈ zT := zT_of 512 (by decide +kernel) (by decide +kernel)
theorem zt_514 : (Cond.methodLink "CordCart" (143 : Nat) ({ cls := "CordCart", name := "isTape", desc := "(I)Z" } : MethodName)) ∈ zT := zT_of 514 (by decide +kernel) (by decide +kernel)
theorem zt_515 : (Cond.static ({ cls := "CordCart", name := "isTape", desc := "(I)Z" } : MethodName)) ∈ zT := zT_of 515 (by decide +kernel) (by decide +kernel)
theorem zt_517 : (Cond.methodLink "CordCart" (149 : Nat) ({ cls := "CordCart", name := "refusedByHost", desc := "(I)I" } : MethodName)) ∈ zT := zT_of 517 (by decide +kernel) (by decide +kernel)
theorem zt_519 : (Cond.instanceMethod ({ cls := "CordCart", name := "refusedByHost", desc := "(I)I" } : MethodName)) ∈ zT := zT_of 519 (by decide +kernel) (by decide +kernel)
theorem zt_521 : (Cond.methodLink "CordCart" (159 : Nat) ({ cls := "CordCart$Weight", name := "isSand", desc := "([JI)Z" } : MethodName)) ∈ zT := zT_of 521 (by decide +kernel) (by decide +kernel)
theorem zt_522 : (Cond.static ({ cls := "CordCart$Weight", name := "isSand", desc := "([JI)Z" } : MethodName)) ∈ zT := zT_of 522 (by decide +kernel) (by decide +kernel)
theorem zt_524 : (Cond.constantLong "CordCart$Weight" (25 : Nat) (9 : Int64)) ∈ zT := zT_of 524 (by decide +kernel) (by decide +kernel)
theorem zt_525 : (Cond.methodLink "CordCart" (163 : Nat) ({ cls := "CordCart$Weight", name := "takeSand", desc := "([JI)V" } : MethodName)) ∈ zT := zT_of 525 (by decide +kernel) (by decide +kernel)
theorem zt_526 : (Cond.instanceMethod ({ cls := "CordCart$Weight", name := "takeSand", desc := "([JI)V" } : MethodName)) ∈ zT := zT_of 526 (by decide +kernel) (by decide +kernel)
theorem zt_527 : (Cond.selects "CordCart$Weight" ({ cls := "CordCart$Weight", name := "takeSand", desc := "([JI)V" } : MethodName) ({ cls := "CordCart$Weight", name := "takeSand", desc := "([JI)V" } : MethodName)) ∈ zT := zT_of 527 (by decide +kernel) (by decide +kernel)
theorem zt_529 : (Cond.methodLink "CordCart$Weight" (27 : Nat) ({ cls := "java/lang/Math", name := "min", desc := "(II)I" } : MethodName)) ∈ zT := zT_of 529 (by decide +kernel) (by decide +kernel)
theorem zt_530 : (Cond.static ({ cls := "java/lang/Math", name := "min", desc := "(II)I" } : MethodName)) ∈ zT := zT_of 530 (by decide +kernel) (by decide +kernel)
theorem zt_532 : (Cond.methodLink "CordCartLaw" (71 : Nat) ({ cls := "CordCart", name := "hold", desc := "(I)I" } : MethodName)) ∈ zT := zT_of 532 (by decide +kernel) (by decide +kernel)
theorem zt_533 : (Cond.instanceMethod ({ cls := "CordCart", name := "hold", desc := "(I)I" } : MethodName)) ∈ zT := zT_of 533 (by decide +kernel) (by decide +kernel)
theorem zt_534 : (Cond.selects "CordCart" ({ cls := "CordCart", name := "hold", desc := "(I)I" } : MethodName) ({ cls := "CordCart", name := "hold", desc := "(I)I" } : MethodName)) ∈ zT := zT_of 534 (by decide +kernel) (by decide +kernel)
theorem zt_536 : (Cond.methodLink "CordCartLaw" (75 : Nat) ({ cls := "CordCart", name := "fall", desc := "(I)I" } : MethodName)) ∈ zT := zT_of 536 (by decide +kernel) (by decide +kernel)
theorem zt_537 : (Cond.instanceMethod ({ cls := "CordCart", name := "fall", desc := "(I)I" } : MethodName)) ∈ zT := zT_of 537 (by decide +kernel) (by decide +kernel)
theorem zt_538 : (Cond.selects "CordCart" ({ cls := "CordCart", name := "fall", desc := "(I)I" } : MethodName) ({ cls := "CordCart", name := "fall", desc := "(I)I" } : MethodName)) ∈ zT := zT_of 538 (by decide +kernel) (by decide +kernel)
theorem zt_540 : (Cond.methodLink "CordCartLaw" (79 : Nat) ({ cls := "CordCart", name := "cord", desc := "(I)I" } : MethodName)) ∈ zT := zT_of 540 (by decide +kernel) (by decide +kernel)
theorem zt_541 : (Cond.instanceMethod ({ cls := "CordCart", name := "cord", desc := "(I)I" } : MethodName)) ∈ zT := zT_of 541 (by decide +kernel) (by decide +kernel)
theorem zt_542 : (Cond.selects "CordCart" ({ cls := "CordCart", name := "cord", desc := "(I)I" } : MethodName) ({ cls := "CordCart", name := "cord", desc := "(I)I" } : MethodName)) ∈ zT := zT_of 542 (by decide +kernel) (by decide +kernel)
theorem zt_544 : (Cond.methodLink "CordCart" (173 : Nat) ({ cls := "CordCart$Cord", name := "units", desc := "()I" } : MethodName)) ∈ zT := zT_of 544 (by decide +kernel) (by decide +kernel)
theorem zt_545 : (Cond.instanceMethod ({ cls := "CordCart$Cord", name := "units", desc := "()I" } : MethodName)) ∈ zT := zT_of 545 (by decide +kernel) (by decide +kernel)
theorem zt_546 : (Cond.selects "CordCart$Cord" ({ cls := "CordCart$Cord", name := "units", desc := "()I" } : MethodName) ({ cls := "CordCart$Cord", name := "units", desc := "()I" } : MethodName)) ∈ zT := zT_of 546 (by decide +kernel) (by decide +kernel)
theorem zt_548 : (Cond.methodLink "CordCartLaw" (83 : Nat) ({ cls := "CordCart", name := "show", desc := "()I" } : MethodName)) ∈ zT := zT_of 548 (by decide +kernel) (by decide +kernel)
theorem zt_549 : (Cond.instanceMethod ({ cls := "CordCart", name := "show", desc := "()I" } : MethodName)) ∈ zT := zT_of 549 (by decide +kernel) (by decide +kernel)
theorem zt_550 : (Cond.selects "CordCart" ({ cls := "CordCart", name := "show", desc := "()I" } : MethodName) ({ cls := "CordCart", name := "show", desc := "()I" } : MethodName)) ∈ zT := zT_of 550 (by decide +kernel) (by decide +kernel)
theorem zt_552 : (Cond.methodLink "CordCart" (177 : Nat) ({ cls := "CordCart$Cart", name := "gaps", desc := "()I" } : MethodName)) ∈ zT := zT_of 552 (by decide +kernel) (by decide +kernel)
theorem zt_553 : (Cond.instanceMethod ({ cls := "CordCart$Cart", name := "gaps", desc := "()I" } : MethodName)) ∈ zT := zT_of 553 (by decide +kernel) (by decide +kernel)
theorem zt_554 : (Cond.selects "CordCart$Cart" ({ cls := "CordCart$Cart", name := "gaps", desc := "()I" } : MethodName) ({ cls := "CordCart$Cart", name := "gaps", desc := "()I" } : MethodName)) ∈ zT := zT_of 554 (by decide +kernel) (by decide +kernel)
theorem zt_556 : (Cond.methodLink "CordCart$Cart" (52 : Nat) ({ cls := "CordCart$Cord", name := "gaps", desc := "()I" } : MethodName)) ∈ zT := zT_of 556 (by decide +kernel) (by decide +kernel)
theorem zt_557 : (Cond.instanceMethod ({ cls := "CordCart$Cord", name := "gaps", desc := "()I" } : MethodName)) ∈ zT := zT_of 557 (by decide +kernel) (by decide +kernel)
theorem zt_558 : (Cond.selects "CordCart$Cord" ({ cls := "CordCart$Cord", name := "gaps", desc := "()I" } : MethodName) ({ cls := "CordCart$Cord", name := "gaps", desc := "()I" } : MethodName)) ∈ zT := zT_of 558 (by decide +kernel) (by decide +kernel)
theorem zt_560 : (Cond.methodLink "CordCart" (180 : Nat) ({ cls := "CordCart$Show", name := "play", desc := "(LCordCart$Run;LCordCart$Weight;LCordCart$Floor;)I" } : MethodName)) ∈ zT := zT_of 560 (by decide +kernel) (by decide +kernel)
theorem zt_561 : (Cond.instanceMethod ({ cls := "CordCart$Show", name := "play", desc := "(LCordCart$Run;LCordCart$Weight;LCordCart$Floor;)I" } : MethodName)) ∈ zT := zT_of 561 (by decide +kernel) (by decide +kernel)
theorem zt_562 : (Cond.selects "CordCart$Show" ({ cls := "CordCart$Show", name := "play", desc := "(LCordCart$Run;LCordCart$Weight;LCordCart$Floor;)I" } : MethodName) ({ cls := "CordCart$Show", name := "play", desc := "(LCordCart$Run;LCordCart$Weight;LCordCart$Floor;)I" } : MethodName)) ∈ zT := zT_of 562 (by decide +kernel) (by decide +kernel)
theorem zt_564 : (Cond.methodLink "CordCart$Show" (36 : Nat) ({ cls := "CordCart$Run", name := "takeKinds", desc := "()V" } : MethodName)) ∈ zT := zT_of 564 (by decide +kernel) (by decide +kernel)
theorem zt_565 : (Cond.instanceMethod ({ cls := "CordCart$Run", name := "takeKinds", desc := "()V" } : MethodName)) ∈ zT := zT_of 565 (by decide +kernel) (by decide +kernel)
theorem zt_566 : (Cond.selects "CordCart$Run" ({ cls := "CordCart$Run", name := "takeKinds", desc := "()V" } : MethodName) ({ cls := "CordCart$Run", name := "takeKinds", desc := "()V" } : MethodName)) ∈ zT := zT_of 566 (by decide +kernel) (by decide +kernel)
theorem zt_568 : (Cond.methodLink "CordCart$Run" (51 : Nat) ({ cls := "java/lang/System", name := "arraycopy", desc := "(Ljava/lang/Object;ILjava/lang/Object;II)V" } : MethodName)) ∈ zT := zT_of 568 (by decide +kernel) (by decide +kernel)
theorem zt_569 : (Cond.static ({ cls := "java/lang/System", name := "arraycopy", desc := "(Ljava/lang/Object;ILjava/lang/Object;II)V" } : MethodName)) ∈ zT := zT_of 569 (by decide +kernel) (by decide +kernel)
theorem zt_570 : (Cond.native ({ cls := "java/lang/System", name := "arraycopy", desc := "(Ljava/lang/Object;ILjava/lang/Object;II)V" } : MethodName)) ∈ zT := zT_of 570 (by decide +kernel) (by decide +kernel)
theorem zt_571 : (Cond.methodLink "CordCart$Show" (41 : Nat) ({ cls := "CordCart$Run", name := "restart", desc := "()V" } : MethodName)) ∈ zT := zT_of 571 (by decide +kernel) (by decide +kernel)
theorem zt_572 : (Cond.instanceMethod ({ cls := "CordCart$Run", name := "restart", desc := "()V" } : MethodName)) ∈ zT := zT_of 572 (by decide +kernel) (by decide +kernel)
theorem zt_573 : (Cond.selects "CordCart$Run" ({ cls := "CordCart$Run", name := "restart", desc := "()V" } : MethodName) ({ cls := "CordCart$Run", name := "restart", desc := "()V" } : MethodName)) ∈ zT := zT_of 573 (by decide +kernel) (by decide +kernel)
theorem zt_575 : (Cond.methodLink "CordCart$Run" (57 : Nat) ({ cls := "CordCart$Pose", name := "become", desc := "(LCordCart$Pose;)V" } : MethodName)) ∈ zT := zT_of 575 (by decide +kernel) (by decide +kernel)
theorem zt_576 : (Cond.instanceMethod ({ cls := "CordCart$Pose", name := "become", desc := "(LCordCart$Pose;)V" } : MethodName)) ∈ zT := zT_of 576 (by decide +kernel) (by decide +kernel)
theorem zt_577 : (Cond.selects "CordCart$Pose" ({ cls := "CordCart$Pose", name := "become", desc := "(LCordCart$Pose;)V" } : MethodName) ({ cls := "CordCart$Pose", name := "become", desc := "(LCordCart$Pose;)V" } : MethodName)) ∈ zT := zT_of 577 (by decide +kernel) (by decide +kernel)
theorem zt_579 : (Cond.methodLink "CordCart$Run" (65 : Nat) ({ cls := "CordCart$Run", name := "goToSegment", desc := "(II)V" } : MethodName)) ∈ zT := zT_of 579 (by decide +kernel) (by decide +kernel)
theorem zt_581 : (Cond.instanceMethod ({ cls := "CordCart$Run", name := "goToSegment", desc := "(II)V" } : MethodName)) ∈ zT := zT_of 581 (by decide +kernel) (by decide +kernel)
theorem zt_583 : (Cond.methodLink "CordCart$Show" (55 : Nat) ({ cls := "CordCart$Run", name := "areAllOut", desc := "()Z" } : MethodName)) ∈ zT := zT_of 583 (by decide +kernel) (by decide +kernel)
theorem zt_584 : (Cond.instanceMethod ({ cls := "CordCart$Run", name := "areAllOut", desc := "()Z" } : MethodName)) ∈ zT := zT_of 584 (by decide +kernel) (by decide +kernel)
theorem zt_585 : (Cond.selects "CordCart$Run" ({ cls := "CordCart$Run", name := "areAllOut", desc := "()Z" } : MethodName) ({ cls := "CordCart$Run", name := "areAllOut", desc := "()Z" } : MethodName)) ∈ zT := zT_of 585 (by decide +kernel) (by decide +kernel)
theorem zt_587 : (Cond.methodLink "CordCart$Run" (72 : Nat) ({ cls := "CordCart$Run", name := "isOut", desc := "(I)Z" } : MethodName)) ∈ zT := zT_of 587 (by decide +kernel) (by decide +kernel)
theorem zt_588 : (Cond.instanceMethod ({ cls := "CordCart$Run", name := "isOut", desc := "(I)Z" } : MethodName)) ∈ zT := zT_of 588 (by decide +kernel) (by decide +kernel)
theorem zt_589 : (Cond.selects "CordCart$Run" ({ cls := "CordCart$Run", name := "isOut", desc := "(I)Z" } : MethodName) ({ cls := "CordCart$Run", name := "isOut", desc := "(I)Z" } : MethodName)) ∈ zT := zT_of 589 (by decide +kernel) (by decide +kernel)
theorem zt_591 : (Cond.methodLink "CordCart$Show" (59 : Nat) ({ cls := "CordCart$Weight", name := "sandOf", desc := "(I)I" } : MethodName)) ∈ zT := zT_of 591 (by decide +kernel) (by decide +kernel)
theorem zt_592 : (Cond.instanceMethod ({ cls := "CordCart$Weight", name := "sandOf", desc := "(I)I" } : MethodName)) ∈ zT := zT_of 592 (by decide +kernel) (by decide +kernel)
theorem zt_593 : (Cond.selects "CordCart$Weight" ({ cls := "CordCart$Weight", name := "sandOf", desc := "(I)I" } : MethodName) ({ cls := "CordCart$Weight", name := "sandOf", desc := "(I)I" } : MethodName)) ∈ zT := zT_of 593 (by decide +kernel) (by decide +kernel)
theorem zt_595 : (Cond.methodLink "CordCart$Show" (63 : Nat) ({ cls := "java/lang/Math", name := "min", desc := "(II)I" } : MethodName)) ∈ zT := zT_of 595 (by decide +kernel) (by decide +kernel)
theorem zt_596 : (Cond.methodLink "CordCart$Show" (72 : Nat) ({ cls := "CordCart$Show", name := "playUnit", desc := "(LCordCart$Run;LCordCart$Floor;Z)V" } : MethodName)) ∈ zT := zT_of 596 (by decide +kernel) (by decide +kernel)
theorem zt_598 : (Cond.instanceMethod ({ cls := "CordCart$Show", name := "playUnit", desc := "(LCordCart$Run;LCordCart$Floor;Z)V" } : MethodName)) ∈ zT := zT_of 598 (by decide +kernel) (by decide +kernel)
theorem zt_600 : (Cond.methodLink "CordCart$Show" (85 : Nat) ({ cls := "CordCart$Run", name := "advance", desc := "(I)V" } : MethodName)) ∈ zT := zT_of 600 (by decide +kernel) (by decide +kernel)
theorem zt_601 : (Cond.instanceMethod ({ cls := "CordCart$Run", name := "advance", desc := "(I)V" } : MethodName)) ∈ zT := zT_of 601 (by decide +kernel) (by decide +kernel)
theorem zt_602 : (Cond.selects "CordCart$Run" ({ cls := "CordCart$Run", name := "advance", desc := "(I)V" } : MethodName) ({ cls := "CordCart$Run", name := "advance", desc := "(I)V" } : MethodName)) ∈ zT := zT_of 602 (by decide +kernel) (by decide +kernel)
theorem zt_604 : (Cond.methodLink "CordCart$Run" (80 : Nat) ({ cls := "CordCart$Run", name := "turnOf", desc := "(I)I" } : MethodName)) ∈ zT := zT_of 604 (by decide +kernel) (by decide +kernel)
theorem zt_606 : (Cond.instanceMethod ({ cls := "CordCart$Run", name := "turnOf", desc := "(I)I" } : MethodName)) ∈ zT := zT_of 606 (by decide +kernel) (by decide +kernel)
theorem zt_608 : (Cond.methodLink "CordCart$Run" (87 : Nat) ({ cls := "CordCart$Pose", name := "roll", desc := "(IIII)V" } : MethodName)) ∈ zT := zT_of 608 (by decide +kernel) (by decide +kernel)
theorem zt_609 : (Cond.instanceMethod ({ cls := "CordCart$Pose", name := "roll", desc := "(IIII)V" } : MethodName)) ∈ zT := zT_of 609 (by decide +kernel) (by decide +kernel)
theorem zt_610 : (Cond.selects "CordCart$Pose" ({ cls := "CordCart$Pose", name := "roll", desc := "(IIII)V" } : MethodName) ({ cls := "CordCart$Pose", name := "roll", desc := "(IIII)V" } : MethodName)) ∈ zT := zT_of 610 (by decide +kernel) (by decide +kernel)
theorem zt_612 : (Cond.methodLink "CordCart$Pose" (33 : Nat) ({ cls := "CordCart$Pose", name := "unitsToChange", desc := "(II)I" } : MethodName)) ∈ zT := zT_of 612 (by decide +kernel) (by decide +kernel)
theorem zt_614 : (Cond.instanceMethod ({ cls := "CordCart$Pose", name := "unitsToChange", desc := "(II)I" } : MethodName)) ∈ zT := zT_of 614 (by decide +kernel) (by decide +kernel)
theorem zt_620 : (Cond.methodLink "CordCart$Pose" (43 : Nat) ({ cls := "CordCart$Pose", name := "changeDirection", desc := "(I)V" } : MethodName)) ∈ zT := zT_of 620 (by decide +kernel) (by decide +kernel)
theorem zt_622 : (Cond.instanceMethod ({ cls := "CordCart$Pose", name := "changeDirection", desc := "(I)V" } : MethodName)) ∈ zT := zT_of 622 (by decide +kernel) (by decide +kernel)
theorem zt_624 : (Cond.methodLink "CordCart$Run" (97 : Nat) ({ cls := "CordCart$Run", name := "give", desc := "(II)V" } : MethodName)) ∈ zT := zT_of 624 (by decide +kernel) (by decide +kernel)
theorem zt_626 : (Cond.instanceMethod ({ cls := "CordCart$Run", name := "give", desc := "(II)V" } : MethodName)) ∈ zT := zT_of 626 (by decide +kernel) (by decide +kernel)
theorem zt_628 : (Cond.methodLink "CordCart$Show" (89 : Nat) ({ cls := "CordCart$Show", name := "noteAct", desc := "(LCordCart$Run;)V" } : MethodName)) ∈ zT := zT_of 628 (by decide +kernel) (by decide +kernel)
theorem zt_630 : (Cond.instanceMethod ({ cls := "CordCart$Show", name := "noteAct", desc := "(LCordCart$Run;)V" } : MethodName)) ∈ zT := zT_of 630 (by decide +kernel) (by decide +kernel)
theorem zt_632 : (Cond.methodLink "CordCart$Show" (120 : Nat) ({ cls := "CordCart$Cart", name := "actAt", desc := "(I)I" } : MethodName)) ∈ zT := zT_of 632 (by decide +kernel) (by decide +kernel)
theorem zt_633 : (Cond.methodLink "CordCart$Show" (93 : Nat) ({ cls := "CordCart$Pose", name := "cellX", desc := "()I" } : MethodName)) ∈ zT := zT_of 633 (by decide +kernel) (by decide +kernel)
theorem zt_634 : (Cond.instanceMethod ({ cls := "CordCart$Pose", name := "cellX", desc := "()I" } : MethodName)) ∈ zT := zT_of 634 (by decide +kernel) (by decide +kernel)
theorem zt_635 : (Cond.selects "CordCart$Pose" ({ cls := "CordCart$Pose", name := "cellX", desc := "()I" } : MethodName) ({ cls := "CordCart$Pose", name := "cellX", desc := "()I" } : MethodName)) ∈ zT := zT_of 635 (by decide +kernel) (by decide +kernel)
theorem zt_637 : (Cond.methodLink "CordCart$Pose" (27 : Nat) ({ cls := "java/lang/Math", name := "floorDiv", desc := "(II)I" } : MethodName)) ∈ zT := zT_of 637 (by decide +kernel) (by decide +kernel)
theorem zt_638 : (Cond.static ({ cls := "java/lang/Math", name := "floorDiv", desc := "(II)I" } : MethodName)) ∈ zT := zT_of 638 (by decide +kernel) (by decide +kernel)
theorem zt_640 : (Cond.methodLink "CordCart$Show" (97 : Nat) ({ cls := "CordCart$Pose", name := "cellY", desc := "()I" } : MethodName)) ∈ zT := zT_of 640 (by decide +kernel) (by decide +kernel)
theorem zt_641 : (Cond.instanceMethod ({ cls := "CordCart$Pose", name := "cellY", desc := "()I" } : MethodName)) ∈ zT := zT_of 641 (by decide +kernel) (by decide +kernel)
theorem zt_642 : (Cond.selects "CordCart$Pose" ({ cls := "CordCart$Pose", name := "cellY", desc := "()I" } : MethodName) ({ cls := "CordCart$Pose", name := "cellY", desc := "()I" } : MethodName)) ∈ zT := zT_of 642 (by decide +kernel) (by decide +kernel)
theorem zt_644 : (Cond.methodLink "CordCart$Show" (100 : Nat) ({ cls := "CordCart$Floor", name := "isFree", desc := "(II)Z" } : MethodName)) ∈ zT := zT_of 644 (by decide +kernel) (by decide +kernel)
theorem zt_645 : (Cond.methodLink "CordCart$Show" (106 : Nat) ({ cls := "CordCart$Show", name := "slipOn", desc := "(LCordCart$Run;I)V" } : MethodName)) ∈ zT := zT_of 645 (by decide +kernel) (by decide +kernel)
theorem zt_647 : (Cond.instanceMethod ({ cls := "CordCart$Show", name := "slipOn", desc := "(LCordCart$Run;I)V" } : MethodName)) ∈ zT := zT_of 647 (by decide +kernel) (by decide +kernel)
theorem zt_649 : (Cond.methodLink "CordCart$Show" (137 : Nat) ({ cls := "CordCart$Cord", name := "has", desc := "(I)Z" } : MethodName)) ∈ zT := zT_of 649 (by decide +kernel) (by decide +kernel)
theorem zt_650 : (Cond.methodLink "CordCart$Show" (77 : Nat) ({ cls := "CordCart$Pose", name := "become", desc := "(LCordCart$Pose;)V" } : MethodName)) ∈ zT := zT_of 650 (by decide +kernel) (by decide +kernel)
theorem zt_651 : (Cond.methodLink "CordCartLaw" (100 : Nat) ({ cls := "CordCart", name := "slipped", desc := "(II)I" } : MethodName)) ∈ zT := zT_of 651 (by decide +kernel) (by decide +kernel)
theorem zt_652 : (Cond.instanceMethod ({ cls := "CordCart", name := "slipped", desc := "(II)I" } : MethodName)) ∈ zT := zT_of 652 (by decide +kernel) (by decide +kernel)
theorem zt_653 : (Cond.selects "CordCart" ({ cls := "CordCart", name := "slipped", desc := "(II)I" } : MethodName) ({ cls := "CordCart", name := "slipped", desc := "(II)I" } : MethodName)) ∈ zT := zT_of 653 (by decide +kernel) (by decide +kernel)
theorem zt_655 : (Cond.methodLink "CordCart" (226 : Nat) ({ cls := "java/lang/Math", name := "min", desc := "(II)I" } : MethodName)) ∈ zT := zT_of 655 (by decide +kernel) (by decide +kernel)
theorem zt_656 : (Cond.methodLink "CordCartLaw" (107 : Nat) ({ cls := "CordCart", name := "wish", desc := "(III)I" } : MethodName)) ∈ zT := zT_of 656 (by decide +kernel) (by decide +kernel)
theorem zt_657 : (Cond.instanceMethod ({ cls := "CordCart", name := "wish", desc := "(III)I" } : MethodName)) ∈ zT := zT_of 657 (by decide +kernel) (by decide +kernel)
theorem zt_658 : (Cond.selects "CordCart" ({ cls := "CordCart", name := "wish", desc := "(III)I" } : MethodName) ({ cls := "CordCart", name := "wish", desc := "(III)I" } : MethodName)) ∈ zT := zT_of 658 (by decide +kernel) (by decide +kernel)
theorem zt_660 : (Cond.methodLink "CordCart" (250 : Nat) ({ cls := "CordCart", name := "isPart", desc := "(III)Z" } : MethodName)) ∈ zT := zT_of 660 (by decide +kernel) (by decide +kernel)
theorem zt_661 : (Cond.static ({ cls := "CordCart", name := "isPart", desc := "(III)Z" } : MethodName)) ∈ zT := zT_of 661 (by decide +kernel) (by decide +kernel)
theorem zt_663 : (Cond.methodLink "CordCart" (254 : Nat) ({ cls := "CordCart$Wish", name := "add", desc := "(III)V" } : MethodName)) ∈ zT := zT_of 663 (by decide +kernel) (by decide +kernel)
theorem zt_664 : (Cond.instanceMethod ({ cls := "CordCart$Wish", name := "add", desc := "(III)V" } : MethodName)) ∈ zT := zT_of 664 (by decide +kernel) (by decide +kernel)
theorem zt_665 : (Cond.selects "CordCart$Wish" ({ cls := "CordCart$Wish", name := "add", desc := "(III)V" } : MethodName) ({ cls := "CordCart$Wish", name := "add", desc := "(III)V" } : MethodName)) ∈ zT := zT_of 665 (by decide +kernel) (by decide +kernel)
theorem zt_667 : (Cond.methodLink "CordCartLaw" (111 : Nat) ({ cls := "CordCart", name := "wishless", desc := "()I" } : MethodName)) ∈ zT := zT_of 667 (by decide +kernel) (by decide +kernel)
theorem zt_668 : (Cond.instanceMethod ({ cls := "CordCart", name := "wishless", desc := "()I" } : MethodName)) ∈ zT := zT_of 668 (by decide +kernel) (by decide +kernel)
theorem zt_669 : (Cond.selects "CordCart" ({ cls := "CordCart", name := "wishless", desc := "()I" } : MethodName) ({ cls := "CordCart", name := "wishless", desc := "()I" } : MethodName)) ∈ zT := zT_of 669 (by decide +kernel) (by decide +kernel)
theorem zt_671 : (Cond.methodLink "CordCartLaw" (115 : Nat) ({ cls := "CordCart", name := "way", desc := "(IIIII)I" } : MethodName)) ∈ zT := zT_of 671 (by decide +kernel) (by decide +kernel)
theorem zt_672 : (Cond.instanceMethod ({ cls := "CordCart", name := "way", desc := "(IIIII)I" } : MethodName)) ∈ zT := zT_of 672 (by decide +kernel) (by decide +kernel)
theorem zt_673 : (Cond.selects "CordCart" ({ cls := "CordCart", name := "way", desc := "(IIIII)I" } : MethodName) ({ cls := "CordCart", name := "way", desc := "(IIIII)I" } : MethodName)) ∈ zT := zT_of 673 (by decide +kernel) (by decide +kernel)
theorem zt_675 : (Cond.methodLink "CordCart" (255 : Nat) ({ cls := "CordCart$Floor", name := "measure", desc := "(IIIIII)I" } : MethodName)) ∈ zT := zT_of 675 (by decide +kernel) (by decide +kernel)
theorem zt_676 : (Cond.instanceMethod ({ cls := "CordCart$Floor", name := "measure", desc := "(IIIIII)I" } : MethodName)) ∈ zT := zT_of 676 (by decide +kernel) (by decide +kernel)
theorem zt_677 : (Cond.selects "CordCart$Floor" ({ cls := "CordCart$Floor", name := "measure", desc := "(IIIIII)I" } : MethodName) ({ cls := "CordCart$Floor", name := "measure", desc := "(IIIIII)I" } : MethodName)) ∈ zT := zT_of 677 (by decide +kernel) (by decide +kernel)
theorem zt_679 : (Cond.constant "CordCart$Floor" (37 : Nat) (1073741824 : Int32)) ∈ zT := zT_of 679 (by decide +kernel) (by decide +kernel)
theorem zt_680 : (Cond.methodLink "CordCart$Floor" (38 : Nat) ({ cls := "java/util/Arrays", name := "fill", desc := "([II)V" } : MethodName)) ∈ zT := zT_of 680 (by decide +kernel) (by decide +kernel)
theorem zt_681 : (Cond.methodLink "CordCart$Floor" (44 : Nat) ({ cls := "CordCart$Line", name := "empty", desc := "()V" } : MethodName)) ∈ zT := zT_of 681 (by decide +kernel) (by decide +kernel)
theorem zt_682 : (Cond.instanceMethod ({ cls := "CordCart$Line", name := "empty", desc := "()V" } : MethodName)) ∈ zT := zT_of 682 (by decide +kernel) (by decide +kernel)
theorem zt_683 : (Cond.selects "CordCart$Line" ({ cls := "CordCart$Line", name := "empty", desc := "()V" } : MethodName) ({ cls := "CordCart$Line", name := "empty", desc := "()V" } : MethodName)) ∈ zT := zT_of 683 (by decide +kernel) (by decide +kernel)
theorem zt_685 : (Cond.methodLink "CordCart$Floor" (50 : Nat) ({ cls := "CordCart$Floor", name := "stateOf", desc := "(III)I" } : MethodName)) ∈ zT := zT_of 685 (by decide +kernel) (by decide +kernel)
theorem zt_686 : (Cond.static ({ cls := "CordCart$Floor", name := "stateOf", desc := "(III)I" } : MethodName)) ∈ zT := zT_of 686 (by decide +kernel) (by decide +kernel)
theorem zt_688 : (Cond.methodLink "CordCart$Floor" (54 : Nat) ({ cls := "CordCart$Floor", name := "isFree", desc := "(II)Z" } : MethodName)) ∈ zT := zT_of 688 (by decide +kernel) (by decide +kernel)
theorem zt_689 : (Cond.methodLink "CordCart$Floor" (57 : Nat) ({ cls := "CordCart$Floor", name := "reach", desc := "(IILCordCart$Line;)V" } : MethodName)) ∈ zT := zT_of 689 (by decide +kernel) (by decide +kernel)
theorem zt_691 : (Cond.instanceMethod ({ cls := "CordCart$Floor", name := "reach", desc := "(IILCordCart$Line;)V" } : MethodName)) ∈ zT := zT_of 691 (by decide +kernel) (by decide +kernel)
theorem zt_693 : (Cond.methodLink "CordCart$Floor" (89 : Nat) ({ cls := "CordCart$Line", name := "add", desc := "(I)V" } : MethodName)) ∈ zT := zT_of 693 (by decide +kernel) (by decide +kernel)
theorem zt_694 : (Cond.instanceMethod ({ cls := "CordCart$Line", name := "add", desc := "(I)V" } : MethodName)) ∈ zT := zT_of 694 (by decide +kernel) (by decide +kernel)
theorem zt_695 : (Cond.selects "CordCart$Line" ({ cls := "CordCart$Line", name := "add", desc := "(I)V" } : MethodName) ({ cls := "CordCart$Line", name := "add", desc := "(I)V" } : MethodName)) ∈ zT := zT_of 695 (by decide +kernel) (by decide +kernel)
theorem zt_697 : (Cond.methodLink "CordCart$Floor" (61 : Nat) ({ cls := "CordCart$Floor", name := "takeNearest", desc := "()I" } : MethodName)) ∈ zT := zT_of 697 (by decide +kernel) (by decide +kernel)
theorem zt_699 : (Cond.instanceMethod ({ cls := "CordCart$Floor", name := "takeNearest", desc := "()I" } : MethodName)) ∈ zT := zT_of 699 (by decide +kernel) (by decide +kernel)
theorem zt_701 : (Cond.methodLink "CordCart$Floor" (79 : Nat) ({ cls := "CordCart$Line", name := "isEmpty", desc := "()Z" } : MethodName)) ∈ zT := zT_of 701 (by decide +kernel) (by decide +kernel)
theorem zt_702 : (Cond.instanceMethod ({ cls := "CordCart$Line", name := "isEmpty", desc := "()Z" } : MethodName)) ∈ zT := zT_of 702 (by decide +kernel) (by decide +kernel)
theorem zt_703 : (Cond.selects "CordCart$Line" ({ cls := "CordCart$Line", name := "isEmpty", desc := "()Z" } : MethodName) ({ cls := "CordCart$Line", name := "isEmpty", desc := "()Z" } : MethodName)) ∈ zT := zT_of 703 (by decide +kernel) (by decide +kernel)
theorem zt_705 : (Cond.methodLink "CordCart$Floor" (83 : Nat) ({ cls := "CordCart$Line", name := "take", desc := "()I" } : MethodName)) ∈ zT := zT_of 705 (by decide +kernel) (by decide +kernel)
theorem zt_706 : (Cond.instanceMethod ({ cls := "CordCart$Line", name := "take", desc := "()I" } : MethodName)) ∈ zT := zT_of 706 (by decide +kernel) (by decide +kernel)
theorem zt_707 : (Cond.selects "CordCart$Line" ({ cls := "CordCart$Line", name := "take", desc := "()I" } : MethodName) ({ cls := "CordCart$Line", name := "take", desc := "()I" } : MethodName)) ∈ zT := zT_of 707 (by decide +kernel) (by decide +kernel)
theorem zt_709 : (Cond.methodLink "CordCart$Line" (22 : Nat) ({ cls := "CordCart$Line", name := "isEmpty", desc := "()Z" } : MethodName)) ∈ zT := zT_of 709 (by decide +kernel) (by decide +kernel)
theorem zt_710 : (Cond.methodLink "CordCart$Floor" (86 : Nat) ({ cls := "CordCart$Line", name := "first", desc := "()I" } : MethodName)) ∈ zT := zT_of 710 (by decide +kernel) (by decide +kernel)
theorem zt_711 : (Cond.instanceMethod ({ cls := "CordCart$Line", name := "first", desc := "()I" } : MethodName)) ∈ zT := zT_of 711 (by decide +kernel) (by decide +kernel)
theorem zt_712 : (Cond.selects "CordCart$Line" ({ cls := "CordCart$Line", name := "first", desc := "()I" } : MethodName) ({ cls := "CordCart$Line", name := "first", desc := "()I" } : MethodName)) ∈ zT := zT_of 712 (by decide +kernel) (by decide +kernel)
theorem zt_714 : (Cond.methodLink "CordCart$Floor" (65 : Nat) ({ cls := "CordCart$Floor", name := "spread", desc := "(I)V" } : MethodName)) ∈ zT := zT_of 714 (by decide +kernel) (by decide +kernel)
theorem zt_716 : (Cond.instanceMethod ({ cls := "CordCart$Floor", name := "spread", desc := "(I)V" } : MethodName)) ∈ zT := zT_of 716 (by decide +kernel) (by decide +kernel)
theorem zt_722 : (Cond.methodLink "CordCartLaw" (120 : Nat) ({ cls := "CordCart", name := "make", desc := "()I" } : MethodName)) ∈ zT := zT_of 722 (by decide +kernel) (by decide +kernel)
theorem zt_723 : (Cond.instanceMethod ({ cls := "CordCart", name := "make", desc := "()I" } : MethodName)) ∈ zT := zT_of 723 (by decide +kernel) (by decide +kernel)
theorem zt_724 : (Cond.selects "CordCart" ({ cls := "CordCart", name := "make", desc := "()I" } : MethodName) ({ cls := "CordCart", name := "make", desc := "()I" } : MethodName)) ∈ zT := zT_of 724 (by decide +kernel) (by decide +kernel)
theorem zt_726 : (Cond.methodLink "CordCart" (259 : Nat) ({ cls := "CordCart", name := "makeWindings", desc := "()I" } : MethodName)) ∈ zT := zT_of 726 (by decide +kernel) (by decide +kernel)
theorem zt_728 : (Cond.instanceMethod ({ cls := "CordCart", name := "makeWindings", desc := "()I" } : MethodName)) ∈ zT := zT_of 728 (by decide +kernel) (by decide +kernel)
theorem zt_730 : (Cond.methodLink "CordCart" (357 : Nat) ({ cls := "CordCart$Pose", name := "cellX", desc := "()I" } : MethodName)) ∈ zT := zT_of 730 (by decide +kernel) (by decide +kernel)
theorem zt_731 : (Cond.methodLink "CordCart" (360 : Nat) ({ cls := "CordCart$Pose", name := "cellY", desc := "()I" } : MethodName)) ∈ zT := zT_of 731 (by decide +kernel) (by decide +kernel)
theorem zt_732 : (Cond.methodLink "CordCart" (363 : Nat) ({ cls := "CordCart$Wish", name := "windFrom", desc := "(LCordCart$Pose;I)I" } : MethodName)) ∈ zT := zT_of 732 (by decide +kernel) (by decide +kernel)
theorem zt_733 : (Cond.instanceMethod ({ cls := "CordCart$Wish", name := "windFrom", desc := "(LCordCart$Pose;I)I" } : MethodName)) ∈ zT := zT_of 733 (by decide +kernel) (by decide +kernel)
theorem zt_734 : (Cond.selects "CordCart$Wish" ({ cls := "CordCart$Wish", name := "windFrom", desc := "(LCordCart$Pose;I)I" } : MethodName) ({ cls := "CordCart$Wish", name := "windFrom", desc := "(LCordCart$Pose;I)I" } : MethodName)) ∈ zT := zT_of 734 (by decide +kernel) (by decide +kernel)
theorem zt_736 : (Cond.methodLink "CordCart$Wish" (39 : Nat) ({ cls := "CordCart$Pose", name := "cellX", desc := "()I" } : MethodName)) ∈ zT := zT_of 736 (by decide +kernel) (by decide +kernel)
theorem zt_737 : (Cond.methodLink "CordCart$Wish" (48 : Nat) ({ cls := "CordCart$Pose", name := "cellY", desc := "()I" } : MethodName)) ∈ zT := zT_of 737 (by decide +kernel) (by decide +kernel)
theorem zt_738 : (Cond.methodLink "CordCart$Wish" (63 : Nat) ({ cls := "CordCart$Wish", name := "goTo", desc := "(II)Z" } : MethodName)) ∈ zT := zT_of 738 (by decide +kernel) (by decide +kernel)
theorem zt_740 : (Cond.instanceMethod ({ cls := "CordCart$Wish", name := "goTo", desc := "(II)Z" } : MethodName)) ∈ zT := zT_of 740 (by decide +kernel) (by decide +kernel)
theorem zt_742 : (Cond.methodLink "CordCart$Wish" (75 : Nat) ({ cls := "CordCart$Floor", name := "measure", desc := "(IIIIII)I" } : MethodName)) ∈ zT := zT_of 742 (by decide +kernel) (by decide +kernel)
theorem zt_743 : (Cond.methodLink "CordCart$Wish" (81 : Nat) ({ cls := "CordCart$Floor", name := "firstMove", desc := "(IIII)I" } : MethodName)) ∈ zT := zT_of 743 (by decide +kernel) (by decide +kernel)
theorem zt_744 : (Cond.instanceMethod ({ cls := "CordCart$Floor", name := "firstMove", desc := "(IIII)I" } : MethodName)) ∈ zT := zT_of 744 (by decide +kernel) (by decide +kernel)
theorem zt_745 : (Cond.selects "CordCart$Floor" ({ cls := "CordCart$Floor", name := "firstMove", desc := "(IIII)I" } : MethodName) ({ cls := "CordCart$Floor", name := "firstMove", desc := "(IIII)I" } : MethodName)) ∈ zT := zT_of 745 (by decide +kernel) (by decide +kernel)
theorem zt_747 : (Cond.methodLink "CordCart$Floor" (75 : Nat) ({ cls := "CordCart$Floor", name := "isNext", desc := "(IIII)Z" } : MethodName)) ∈ zT := zT_of 747 (by decide +kernel) (by decide +kernel)
theorem zt_749 : (Cond.instanceMethod ({ cls := "CordCart$Floor", name := "isNext", desc := "(IIII)Z" } : MethodName)) ∈ zT := zT_of 749 (by decide +kernel) (by decide +kernel)
theorem zt_751 : (Cond.methodLink "CordCart$Wish" (85 : Nat) ({ cls := "CordCart$Wish", name := "move", desc := "(I)V" } : MethodName)) ∈ zT := zT_of 751 (by decide +kernel) (by decide +kernel)
theorem zt_753 : (Cond.instanceMethod ({ cls := "CordCart$Wish", name := "move", desc := "(I)V" } : MethodName)) ∈ zT := zT_of 753 (by decide +kernel) (by decide +kernel)
theorem zt_755 : (Cond.methodLink "CordCart$Wish" (67 : Nat) ({ cls := "CordCart$Wish", name := "windUnits", desc := "(IIII)V" } : MethodName)) ∈ zT := zT_of 755 (by decide +kernel) (by decide +kernel)
theorem zt_757 : (Cond.instanceMethod ({ cls := "CordCart$Wish", name := "windUnits", desc := "(IIII)V" } : MethodName)) ∈ zT := zT_of 757 (by decide +kernel) (by decide +kernel)
theorem zt_759 : (Cond.methodLink "CordCart$Wish" (95 : Nat) ({ cls := "CordCart$Cord", name := "addUnits", desc := "(II)Z" } : MethodName)) ∈ zT := zT_of 759 (by decide +kernel) (by decide +kernel)
theorem zt_760 : (Cond.instanceMethod ({ cls := "CordCart$Cord", name := "addUnits", desc := "(II)Z" } : MethodName)) ∈ zT := zT_of 760 (by decide +kernel) (by decide +kernel)
theorem zt_761 : (Cond.selects "CordCart$Cord" ({ cls := "CordCart$Cord", name := "addUnits", desc := "(II)Z" } : MethodName) ({ cls := "CordCart$Cord", name := "addUnits", desc := "(II)Z" } : MethodName)) ∈ zT := zT_of 761 (by decide +kernel) (by decide +kernel)
theorem zt_763 : (Cond.methodLink "CordCart$Cord" (25 : Nat) ({ cls := "java/lang/Math", name := "min", desc := "(II)I" } : MethodName)) ∈ zT := zT_of 763 (by decide +kernel) (by decide +kernel)
theorem zt_764 : (Cond.methodLink "CordCart$Cord" (31 : Nat) ({ cls := "CordCart$Cord", name := "add", desc := "(III)V" } : MethodName)) ∈ zT := zT_of 764 (by decide +kernel) (by decide +kernel)
theorem zt_767 : (Cond.methodLink "CordCart$Wish" (71 : Nat) ({ cls := "CordCart$Wish", name := "faceTo", desc := "(I)V" } : MethodName)) ∈ zT := zT_of 767 (by decide +kernel) (by decide +kernel)
theorem zt_769 : (Cond.instanceMethod ({ cls := "CordCart$Wish", name := "faceTo", desc := "(I)V" } : MethodName)) ∈ zT := zT_of 769 (by decide +kernel) (by decide +kernel)
theorem zt_771 : (Cond.methodLink "CordCart" (265 : Nat) ({ cls := "CordCart$Cord", name := "become", desc := "(LCordCart$Cord;)V" } : MethodName)) ∈ zT := zT_of 771 (by decide +kernel) (by decide +kernel)
theorem zt_772 : (Cond.instanceMethod ({ cls := "CordCart$Cord", name := "become", desc := "(LCordCart$Cord;)V" } : MethodName)) ∈ zT := zT_of 772 (by decide +kernel) (by decide +kernel)
theorem zt_773 : (Cond.selects "CordCart$Cord" ({ cls := "CordCart$Cord", name := "become", desc := "(LCordCart$Cord;)V" } : MethodName) ({ cls := "CordCart$Cord", name := "become", desc := "(LCordCart$Cord;)V" } : MethodName)) ∈ zT := zT_of 773 (by decide +kernel) (by decide +kernel)
theorem zt_775 : (Cond.methodLink "CordCartLaw" (124 : Nat) ({ cls := "CordCart", name := "spot", desc := "(III)I" } : MethodName)) ∈ zT := zT_of 775 (by decide +kernel) (by decide +kernel)
theorem zt_776 : (Cond.instanceMethod ({ cls := "CordCart", name := "spot", desc := "(III)I" } : MethodName)) ∈ zT := zT_of 776 (by decide +kernel) (by decide +kernel)
theorem zt_777 : (Cond.selects "CordCart" ({ cls := "CordCart", name := "spot", desc := "(III)I" } : MethodName) ({ cls := "CordCart", name := "spot", desc := "(III)I" } : MethodName)) ∈ zT := zT_of 777 (by decide +kernel) (by decide +kernel)
theorem zt_779 : (Cond.methodLink "CordCart" (272 : Nat) ({ cls := "CordCart$Finds", name := "addSpot", desc := "(III)V" } : MethodName)) ∈ zT := zT_of 779 (by decide +kernel) (by decide +kernel)
theorem zt_780 : (Cond.instanceMethod ({ cls := "CordCart$Finds", name := "addSpot", desc := "(III)V" } : MethodName)) ∈ zT := zT_of 780 (by decide +kernel) (by decide +kernel)
theorem zt_781 : (Cond.selects "CordCart$Finds" ({ cls := "CordCart$Finds", name := "addSpot", desc := "(III)V" } : MethodName) ({ cls := "CordCart$Finds", name := "addSpot", desc := "(III)V" } : MethodName)) ∈ zT := zT_of 781 (by decide +kernel) (by decide +kernel)
theorem zt_783 : (Cond.methodLink "CordCart$Finds" (44 : Nat) ({ cls := "CordCart$Finds", name := "setSpot", desc := "(IIII)V" } : MethodName)) ∈ zT := zT_of 783 (by decide +kernel) (by decide +kernel)
theorem zt_785 : (Cond.instanceMethod ({ cls := "CordCart$Finds", name := "setSpot", desc := "(IIII)V" } : MethodName)) ∈ zT := zT_of 785 (by decide +kernel) (by decide +kernel)
theorem zt_787 : (Cond.methodLink "CordCartLaw" (128 : Nat) ({ cls := "CordCart", name := "spotless", desc := "()I" } : MethodName)) ∈ zT := zT_of 787 (by decide +kernel) (by decide +kernel)
theorem zt_788 : (Cond.instanceMethod ({ cls := "CordCart", name := "spotless", desc := "()I" } : MethodName)) ∈ zT := zT_of 788 (by decide +kernel) (by decide +kernel)
theorem zt_789 : (Cond.selects "CordCart" ({ cls := "CordCart", name := "spotless", desc := "()I" } : MethodName) ({ cls := "CordCart", name := "spotless", desc := "()I" } : MethodName)) ∈ zT := zT_of 789 (by decide +kernel) (by decide +kernel)
theorem zt_791 : (Cond.methodLink "CordCartLaw" (132 : Nat) ({ cls := "CordCart", name := "miss", desc := "()I" } : MethodName)) ∈ zT := zT_of 791 (by decide +kernel) (by decide +kernel)
theorem zt_792 : (Cond.instanceMethod ({ cls := "CordCart", name := "miss", desc := "()I" } : MethodName)) ∈ zT := zT_of 792 (by decide +kernel) (by decide +kernel)
theorem zt_793 : (Cond.selects "CordCart" ({ cls := "CordCart", name := "miss", desc := "()I" } : MethodName) ({ cls := "CordCart", name := "miss", desc := "()I" } : MethodName)) ∈ zT := zT_of 793 (by decide +kernel) (by decide +kernel)
theorem zt_795 : (Cond.methodLink "CordCart" (275 : Nat) ({ cls := "CordCart$Finds", name := "missedSpots", desc := "()I" } : MethodName)) ∈ zT := zT_of 795 (by decide +kernel) (by decide +kernel)
theorem zt_796 : (Cond.instanceMethod ({ cls := "CordCart$Finds", name := "missedSpots", desc := "()I" } : MethodName)) ∈ zT := zT_of 796 (by decide +kernel) (by decide +kernel)
theorem zt_797 : (Cond.selects "CordCart$Finds" ({ cls := "CordCart$Finds", name := "missedSpots", desc := "()I" } : MethodName) ({ cls := "CordCart$Finds", name := "missedSpots", desc := "()I" } : MethodName)) ∈ zT := zT_of 797 (by decide +kernel) (by decide +kernel)
theorem zt_799 : (Cond.methodLink "CordCart$Finds" (48 : Nat) ({ cls := "CordCart$Run", name := "takeKinds", desc := "()V" } : MethodName)) ∈ zT := zT_of 799 (by decide +kernel) (by decide +kernel)
theorem zt_800 : (Cond.methodLink "CordCart$Finds" (53 : Nat) ({ cls := "CordCart$Run", name := "restart", desc := "()V" } : MethodName)) ∈ zT := zT_of 800 (by decide +kernel) (by decide +kernel)
theorem zt_801 : (Cond.methodLink "CordCart$Finds" (56 : Nat) ({ cls := "CordCart$Finds", name := "comesTo", desc := "(I)Z" } : MethodName)) ∈ zT := zT_of 801 (by decide +kernel) (by decide +kernel)
theorem zt_803 : (Cond.instanceMethod ({ cls := "CordCart$Finds", name := "comesTo", desc := "(I)Z" } : MethodName)) ∈ zT := zT_of 803 (by decide +kernel) (by decide +kernel)
theorem zt_805 : (Cond.methodLink "CordCart$Finds" (117 : Nat) ({ cls := "java/lang/Math", name := "min", desc := "(II)I" } : MethodName)) ∈ zT := zT_of 805 (by decide +kernel) (by decide +kernel)
theorem zt_806 : (Cond.methodLink "CordCart$Finds" (123 : Nat) ({ cls := "CordCart$Run", name := "goOnTo", desc := "(I)V" } : MethodName)) ∈ zT := zT_of 806 (by decide +kernel) (by decide +kernel)
theorem zt_807 : (Cond.instanceMethod ({ cls := "CordCart$Run", name := "goOnTo", desc := "(I)V" } : MethodName)) ∈ zT := zT_of 807 (by decide +kernel) (by decide +kernel)
theorem zt_808 : (Cond.selects "CordCart$Run" ({ cls := "CordCart$Run", name := "goOnTo", desc := "(I)V" } : MethodName) ({ cls := "CordCart$Run", name := "goOnTo", desc := "(I)V" } : MethodName)) ∈ zT := zT_of 808 (by decide +kernel) (by decide +kernel)
theorem zt_810 : (Cond.methodLink "CordCart$Run" (76 : Nat) ({ cls := "CordCart$Run", name := "advance", desc := "(I)V" } : MethodName)) ∈ zT := zT_of 810 (by decide +kernel) (by decide +kernel)
theorem zt_811 : (Cond.methodLink "CordCart$Finds" (130 : Nat) ({ cls := "CordCart$Pose", name := "cellX", desc := "()I" } : MethodName)) ∈ zT := zT_of 811 (by decide +kernel) (by decide +kernel)
theorem zt_812 : (Cond.methodLink "CordCart$Finds" (136 : Nat) ({ cls := "CordCart$Pose", name := "cellY", desc := "()I" } : MethodName)) ∈ zT := zT_of 812 (by decide +kernel) (by decide +kernel)
theorem zt_813 : (Cond.methodLink "CordCartLaw" (136 : Nat) ({ cls := "CordCart", name := "fillings", desc := "()I" } : MethodName)) ∈ zT := zT_of 813 (by decide +kernel) (by decide +kernel)
theorem zt_814 : (Cond.instanceMethod ({ cls := "CordCart", name := "fillings", desc := "()I" } : MethodName)) ∈ zT := zT_of 814 (by decide +kernel) (by decide +kernel)
theorem zt_815 : (Cond.selects "CordCart" ({ cls := "CordCart", name := "fillings", desc := "()I" } : MethodName) ({ cls := "CordCart", name := "fillings", desc := "()I" } : MethodName)) ∈ zT := zT_of 815 (by decide +kernel) (by decide +kernel)
theorem zt_817 : (Cond.methodLink "CordCart" (278 : Nat) ({ cls := "CordCart$Finds", name := "findFillings", desc := "()V" } : MethodName)) ∈ zT := zT_of 817 (by decide +kernel) (by decide +kernel)
theorem zt_818 : (Cond.instanceMethod ({ cls := "CordCart$Finds", name := "findFillings", desc := "()V" } : MethodName)) ∈ zT := zT_of 818 (by decide +kernel) (by decide +kernel)
theorem zt_819 : (Cond.selects "CordCart$Finds" ({ cls := "CordCart$Finds", name := "findFillings", desc := "()V" } : MethodName) ({ cls := "CordCart$Finds", name := "findFillings", desc := "()V" } : MethodName)) ∈ zT := zT_of 819 (by decide +kernel) (by decide +kernel)
theorem zt_821 : (Cond.methodLink "CordCart$Finds" (65 : Nat) ({ cls := "CordCart$Finds", name := "listGaps", desc := "()V" } : MethodName)) ∈ zT := zT_of 821 (by decide +kernel) (by decide +kernel)
theorem zt_823 : (Cond.instanceMethod ({ cls := "CordCart$Finds", name := "listGaps", desc := "()V" } : MethodName)) ∈ zT := zT_of 823 (by decide +kernel) (by decide +kernel)
theorem zt_825 : (Cond.methodLink "CordCart$Finds" (71 : Nat) ({ cls := "CordCart$Finds", name := "fillingsOf", desc := "(I)J" } : MethodName)) ∈ zT := zT_of 825 (by decide +kernel) (by decide +kernel)
theorem zt_826 : (Cond.static ({ cls := "CordCart$Finds", name := "fillingsOf", desc := "(I)J" } : MethodName)) ∈ zT := zT_of 826 (by decide +kernel) (by decide +kernel)
theorem zt_828 : (Cond.constantLong "CordCart$Finds" (63 : Nat) (3 : Int64)) ∈ zT := zT_of 828 (by decide +kernel) (by decide +kernel)
theorem zt_829 : (Cond.methodLink "CordCart$Finds" (78 : Nat) ({ cls := "CordCart$Finds", name := "agrees", desc := "()Z" } : MethodName)) ∈ zT := zT_of 829 (by decide +kernel) (by decide +kernel)
theorem zt_831 : (Cond.instanceMethod ({ cls := "CordCart$Finds", name := "agrees", desc := "()Z" } : MethodName)) ∈ zT := zT_of 831 (by decide +kernel) (by decide +kernel)
theorem zt_833 : (Cond.methodLink "CordCart$Finds" (82 : Nat) ({ cls := "CordCart$Finds", name := "addFound", desc := "(I)V" } : MethodName)) ∈ zT := zT_of 833 (by decide +kernel) (by decide +kernel)
theorem zt_835 : (Cond.instanceMethod ({ cls := "CordCart$Finds", name := "addFound", desc := "(I)V" } : MethodName)) ∈ zT := zT_of 835 (by decide +kernel) (by decide +kernel)
theorem zt_837 : (Cond.methodLink "CordCartLaw" (140 : Nat) ({ cls := "CordCart", name := "filling", desc := "(I)I" } : MethodName)) ∈ zT := zT_of 837 (by decide +kernel) (by decide +kernel)
theorem zt_838 : (Cond.instanceMethod ({ cls := "CordCart", name := "filling", desc := "(I)I" } : MethodName)) ∈ zT := zT_of 838 (by decide +kernel) (by decide +kernel)
theorem zt_839 : (Cond.selects "CordCart" ({ cls := "CordCart", name := "filling", desc := "(I)I" } : MethodName) ({ cls := "CordCart", name := "filling", desc := "(I)I" } : MethodName)) ∈ zT := zT_of 839 (by decide +kernel) (by decide +kernel)
theorem zt_841 : (Cond.methodLink "CordCart" (284 : Nat) ({ cls := "CordCart$Finds", name := "foundAt", desc := "(I)I" } : MethodName)) ∈ zT := zT_of 841 (by decide +kernel) (by decide +kernel)
theorem zt_842 : (Cond.instanceMethod ({ cls := "CordCart$Finds", name := "foundAt", desc := "(I)I" } : MethodName)) ∈ zT := zT_of 842 (by decide +kernel) (by decide +kernel)
theorem zt_843 : (Cond.selects "CordCart$Finds" ({ cls := "CordCart$Finds", name := "foundAt", desc := "(I)I" } : MethodName) ({ cls := "CordCart$Finds", name := "foundAt", desc := "(I)I" } : MethodName)) ∈ zT := zT_of 843 (by decide +kernel) (by decide +kernel)
theorem zt_845 : (Cond.methodLink "CordCartLaw" (144 : Nat) ({ cls := "CordCart", name := "fill", desc := "(I)I" } : MethodName)) ∈ zT := zT_of 845 (by decide +kernel) (by decide +kernel)
theorem zt_846 : (Cond.instanceMethod ({ cls := "CordCart", name := "fill", desc := "(I)I" } : MethodName)) ∈ zT := zT_of 846 (by decide +kernel) (by decide +kernel)
theorem zt_847 : (Cond.selects "CordCart" ({ cls := "CordCart", name := "fill", desc := "(I)I" } : MethodName) ({ cls := "CordCart", name := "fill", desc := "(I)I" } : MethodName)) ∈ zT := zT_of 847 (by decide +kernel) (by decide +kernel)
theorem zt_849 : (Cond.methodLink "CordCart" (287 : Nat) ({ cls := "CordCart$Finds", name := "fillingsOf", desc := "(I)J" } : MethodName)) ∈ zT := zT_of 849 (by decide +kernel) (by decide +kernel)
theorem zt_850 : (Cond.methodLink "CordCart" (291 : Nat) ({ cls := "CordCart$Finds", name := "fillCords", desc := "(I)V" } : MethodName)) ∈ zT := zT_of 850 (by decide +kernel) (by decide +kernel)
theorem zt_851 : (Cond.instanceMethod ({ cls := "CordCart$Finds", name := "fillCords", desc := "(I)V" } : MethodName)) ∈ zT := zT_of 851 (by decide +kernel) (by decide +kernel)
theorem zt_852 : (Cond.selects "CordCart$Finds" ({ cls := "CordCart$Finds", name := "fillCords", desc := "(I)V" } : MethodName) ({ cls := "CordCart$Finds", name := "fillCords", desc := "(I)V" } : MethodName)) ∈ zT := zT_of 852 (by decide +kernel) (by decide +kernel)
theorem zt_854 : (Cond.methodLink "CordCartLaw" (148 : Nat) ({ cls := "CordCart", name := "slips", desc := "()I" } : MethodName)) ∈ zT := zT_of 854 (by decide +kernel) (by decide +kernel)
theorem zt_855 : (Cond.instanceMethod ({ cls := "CordCart", name := "slips", desc := "()I" } : MethodName)) ∈ zT := zT_of 855 (by decide +kernel) (by decide +kernel)
theorem zt_856 : (Cond.selects "CordCart" ({ cls := "CordCart", name := "slips", desc := "()I" } : MethodName) ({ cls := "CordCart", name := "slips", desc := "()I" } : MethodName)) ∈ zT := zT_of 856 (by decide +kernel) (by decide +kernel)
theorem zt_858 : (Cond.methodLink "CordCart" (294 : Nat) ({ cls := "CordCart$Finds", name := "findSlips", desc := "()V" } : MethodName)) ∈ zT := zT_of 858 (by decide +kernel) (by decide +kernel)
theorem zt_859 : (Cond.instanceMethod ({ cls := "CordCart$Finds", name := "findSlips", desc := "()V" } : MethodName)) ∈ zT := zT_of 859 (by decide +kernel) (by decide +kernel)
theorem zt_860 : (Cond.selects "CordCart$Finds" ({ cls := "CordCart$Finds", name := "findSlips", desc := "()V" } : MethodName) ({ cls := "CordCart$Finds", name := "findSlips", desc := "()V" } : MethodName)) ∈ zT := zT_of 860 (by decide +kernel) (by decide +kernel)
theorem zt_862 : (Cond.methodLink "CordCart$Finds" (100 : Nat) ({ cls := "CordCart$Finds", name := "listSlips", desc := "()V" } : MethodName)) ∈ zT := zT_of 862 (by decide +kernel) (by decide +kernel)
theorem zt_864 : (Cond.instanceMethod ({ cls := "CordCart$Finds", name := "listSlips", desc := "()V" } : MethodName)) ∈ zT := zT_of 864 (by decide +kernel) (by decide +kernel)
theorem zt_866 : (Cond.methodLink "CordCart$Finds" (106 : Nat) ({ cls := "CordCart$Finds", name := "giveSlip", desc := "(I)V" } : MethodName)) ∈ zT := zT_of 866 (by decide +kernel) (by decide +kernel)
theorem zt_868 : (Cond.instanceMethod ({ cls := "CordCart$Finds", name := "giveSlip", desc := "(I)V" } : MethodName)) ∈ zT := zT_of 868 (by decide +kernel) (by decide +kernel)
theorem zt_870 : (Cond.methodLink "CordCart$Finds" (109 : Nat) ({ cls := "CordCart$Finds", name := "takeSlipBack", desc := "(I)V" } : MethodName)) ∈ zT := zT_of 870 (by decide +kernel) (by decide +kernel)
theorem zt_872 : (Cond.instanceMethod ({ cls := "CordCart$Finds", name := "takeSlipBack", desc := "(I)V" } : MethodName)) ∈ zT := zT_of 872 (by decide +kernel) (by decide +kernel)
theorem zt_874 : (Cond.methodLink "CordCartLaw" (152 : Nat) ({ cls := "CordCart", name := "slip", desc := "(I)I" } : MethodName)) ∈ zT := zT_of 874 (by decide +kernel) (by decide +kernel)
theorem zt_875 : (Cond.instanceMethod ({ cls := "CordCart", name := "slip", desc := "(I)I" } : MethodName)) ∈ zT := zT_of 875 (by decide +kernel) (by decide +kernel)
theorem zt_876 : (Cond.selects "CordCart" ({ cls := "CordCart", name := "slip", desc := "(I)I" } : MethodName) ({ cls := "CordCart", name := "slip", desc := "(I)I" } : MethodName)) ∈ zT := zT_of 876 (by decide +kernel) (by decide +kernel)
theorem zt_878 : (Cond.methodLink "CordCartLaw" (156 : Nat) ({ cls := "CordCart", name := "pair", desc := "()I" } : MethodName)) ∈ zT := zT_of 878 (by decide +kernel) (by decide +kernel)
theorem zt_879 : (Cond.instanceMethod ({ cls := "CordCart", name := "pair", desc := "()I" } : MethodName)) ∈ zT := zT_of 879 (by decide +kernel) (by decide +kernel)
theorem zt_880 : (Cond.selects "CordCart" ({ cls := "CordCart", name := "pair", desc := "()I" } : MethodName) ({ cls := "CordCart", name := "pair", desc := "()I" } : MethodName)) ∈ zT := zT_of 880 (by decide +kernel) (by decide +kernel)
theorem zt_882 : (Cond.methodLink "CordCart" (297 : Nat) ({ cls := "CordCart$Finds", name := "firstPair", desc := "()I" } : MethodName)) ∈ zT := zT_of 882 (by decide +kernel) (by decide +kernel)
theorem zt_883 : (Cond.instanceMethod ({ cls := "CordCart$Finds", name := "firstPair", desc := "()I" } : MethodName)) ∈ zT := zT_of 883 (by decide +kernel) (by decide +kernel)
theorem zt_884 : (Cond.selects "CordCart$Finds" ({ cls := "CordCart$Finds", name := "firstPair", desc := "()I" } : MethodName) ({ cls := "CordCart$Finds", name := "firstPair", desc := "()I" } : MethodName)) ∈ zT := zT_of 884 (by decide +kernel) (by decide +kernel)
theorem zt_886 : (Cond.methodLink "CordCartLaw" (160 : Nat) ({ cls := "CordCart", name := "reads", desc := "()I" } : MethodName)) ∈ zT := zT_of 886 (by decide +kernel) (by decide +kernel)
theorem zt_887 : (Cond.instanceMethod ({ cls := "CordCart", name := "reads", desc := "()I" } : MethodName)) ∈ zT := zT_of 887 (by decide +kernel) (by decide +kernel)
theorem zt_888 : (Cond.selects "CordCart" ({ cls := "CordCart", name := "reads", desc := "()I" } : MethodName) ({ cls := "CordCart", name := "reads", desc := "()I" } : MethodName)) ∈ zT := zT_of 888 (by decide +kernel) (by decide +kernel)
theorem zt_890 : (Cond.methodLink "CordCart" (300 : Nat) ({ cls := "CordCart$Cord", name := "isLike", desc := "(LCordCart$Cord;)Z" } : MethodName)) ∈ zT := zT_of 890 (by decide +kernel) (by decide +kernel)
theorem zt_891 : (Cond.instanceMethod ({ cls := "CordCart$Cord", name := "isLike", desc := "(LCordCart$Cord;)Z" } : MethodName)) ∈ zT := zT_of 891 (by decide +kernel) (by decide +kernel)
theorem zt_892 : (Cond.selects "CordCart$Cord" ({ cls := "CordCart$Cord", name := "isLike", desc := "(LCordCart$Cord;)Z" } : MethodName) ({ cls := "CordCart$Cord", name := "isLike", desc := "(LCordCart$Cord;)Z" } : MethodName)) ∈ zT := zT_of 892 (by decide +kernel) (by decide +kernel)
theorem zt_894 : (Cond.methodLink "CordCartLaw" (164 : Nat) ({ cls := "CordCart", name := "tape", desc := "(III)I" } : MethodName)) ∈ zT := zT_of 894 (by decide +kernel) (by decide +kernel)
theorem zt_895 : (Cond.instanceMethod ({ cls := "CordCart", name := "tape", desc := "(III)I" } : MethodName)) ∈ zT := zT_of 895 (by decide +kernel) (by decide +kernel)
theorem zt_896 : (Cond.selects "CordCart" ({ cls := "CordCart", name := "tape", desc := "(III)I" } : MethodName) ({ cls := "CordCart", name := "tape", desc := "(III)I" } : MethodName)) ∈ zT := zT_of 896 (by decide +kernel) (by decide +kernel)
theorem zt_898 : (Cond.methodLink "CordCart" (304 : Nat) ({ cls := "CordCart$Tape", name := "becomeRow", desc := "(II)V" } : MethodName)) ∈ zT := zT_of 898 (by decide +kernel) (by decide +kernel)
theorem zt_899 : (Cond.instanceMethod ({ cls := "CordCart$Tape", name := "becomeRow", desc := "(II)V" } : MethodName)) ∈ zT := zT_of 899 (by decide +kernel) (by decide +kernel)
theorem zt_900 : (Cond.selects "CordCart$Tape" ({ cls := "CordCart$Tape", name := "becomeRow", desc := "(II)V" } : MethodName) ({ cls := "CordCart$Tape", name := "becomeRow", desc := "(II)V" } : MethodName)) ∈ zT := zT_of 900 (by decide +kernel) (by decide +kernel)
theorem zt_902 : (Cond.methodLink "CordCart$Tape" (29 : Nat) ({ cls := "java/util/Arrays", name := "fill", desc := "([JJ)V" } : MethodName)) ∈ zT := zT_of 902 (by decide +kernel) (by decide +kernel)
theorem zt_903 : (Cond.static ({ cls := "java/util/Arrays", name := "fill", desc := "([JJ)V" } : MethodName)) ∈ zT := zT_of 903 (by decide +kernel) (by decide +kernel)
theorem zt_905 : (Cond.methodLink "CordCartLaw" (168 : Nat) ({ cls := "CordCart", name := "keep", desc := "(I)I" } : MethodName)) ∈ zT := zT_of 905 (by decide +kernel) (by decide +kernel)
theorem zt_906 : (Cond.instanceMethod ({ cls := "CordCart", name := "keep", desc := "(I)I" } : MethodName)) ∈ zT := zT_of 906 (by decide +kernel) (by decide +kernel)
theorem zt_907 : (Cond.selects "CordCart" ({ cls := "CordCart", name := "keep", desc := "(I)I" } : MethodName) ({ cls := "CordCart", name := "keep", desc := "(I)I" } : MethodName)) ∈ zT := zT_of 907 (by decide +kernel) (by decide +kernel)
theorem zt_909 : (Cond.methodLink "CordCart" (308 : Nat) ({ cls := "CordCart$Cart", name := "become", desc := "(LCordCart$Cart;)V" } : MethodName)) ∈ zT := zT_of 909 (by decide +kernel) (by decide +kernel)
theorem zt_910 : (Cond.instanceMethod ({ cls := "CordCart$Cart", name := "become", desc := "(LCordCart$Cart;)V" } : MethodName)) ∈ zT := zT_of 910 (by decide +kernel) (by decide +kernel)
theorem zt_911 : (Cond.selects "CordCart$Cart" ({ cls := "CordCart$Cart", name := "become", desc := "(LCordCart$Cart;)V" } : MethodName) ({ cls := "CordCart$Cart", name := "become", desc := "(LCordCart$Cart;)V" } : MethodName)) ∈ zT := zT_of 911 (by decide +kernel) (by decide +kernel)
theorem zt_913 : (Cond.methodLink "CordCart$Cart" (38 : Nat) ({ cls := "CordCart$Cord", name := "become", desc := "(LCordCart$Cord;)V" } : MethodName)) ∈ zT := zT_of 913 (by decide +kernel) (by decide +kernel)
theorem zt_914 : (Cond.methodLink "CordCart$Cart" (42 : Nat) ({ cls := "java/lang/System", name := "arraycopy", desc := "(Ljava/lang/Object;ILjava/lang/Object;II)V" } : MethodName)) ∈ zT := zT_of 914 (by decide +kernel) (by decide +kernel)
theorem zt_915 : (Cond.methodLink "CordCart" (311 : Nat) ({ cls := "CordCart$Cart", name := "segments", desc := "()I" } : MethodName)) ∈ zT := zT_of 915 (by decide +kernel) (by decide +kernel)
theorem zt_916 : (Cond.instanceMethod ({ cls := "CordCart$Cart", name := "segments", desc := "()I" } : MethodName)) ∈ zT := zT_of 916 (by decide +kernel) (by decide +kernel)
theorem zt_917 : (Cond.selects "CordCart$Cart" ({ cls := "CordCart$Cart", name := "segments", desc := "()I" } : MethodName) ({ cls := "CordCart$Cart", name := "segments", desc := "()I" } : MethodName)) ∈ zT := zT_of 917 (by decide +kernel) (by decide +kernel)
theorem zt_919 : (Cond.methodLink "CordCartLaw" (172 : Nat) ({ cls := "CordCart", name := "back", desc := "(I)I" } : MethodName)) ∈ zT := zT_of 919 (by decide +kernel) (by decide +kernel)
theorem zt_920 : (Cond.instanceMethod ({ cls := "CordCart", name := "back", desc := "(I)I" } : MethodName)) ∈ zT := zT_of 920 (by decide +kernel) (by decide +kernel)
theorem zt_921 : (Cond.selects "CordCart" ({ cls := "CordCart", name := "back", desc := "(I)I" } : MethodName) ({ cls := "CordCart", name := "back", desc := "(I)I" } : MethodName)) ∈ zT := zT_of 921 (by decide +kernel) (by decide +kernel)
theorem zt_923 : (Cond.methodLink "CordCart" (314 : Nat) ({ cls := "CordCart", name := "refusalOfCart", desc := "(I)I" } : MethodName)) ∈ zT := zT_of 923 (by decide +kernel) (by decide +kernel)
theorem zt_925 : (Cond.instanceMethod ({ cls := "CordCart", name := "refusalOfCart", desc := "(I)I" } : MethodName)) ∈ zT := zT_of 925 (by decide +kernel) (by decide +kernel)
theorem zt_927 : (Cond.methodLink "CordCartLaw" (176 : Nat) ({ cls := "CordCart", name := "toss", desc := "(I)I" } : MethodName)) ∈ zT := zT_of 927 (by decide +kernel) (by decide +kernel)
theorem zt_928 : (Cond.instanceMethod ({ cls := "CordCart", name := "toss", desc := "(I)I" } : MethodName)) ∈ zT := zT_of 928 (by decide +kernel) (by decide +kernel)
theorem zt_929 : (Cond.selects "CordCart" ({ cls := "CordCart", name := "toss", desc := "(I)I" } : MethodName) ({ cls := "CordCart", name := "toss", desc := "(I)I" } : MethodName)) ∈ zT := zT_of 929 (by decide +kernel) (by decide +kernel)
theorem zt_931 : (Cond.classLink "CordCart" (195 : Nat) "java/lang/IllegalStateException") ∈ zT := zT_of 931 (by decide +kernel) (by decide +kernel)
theorem zt_932 : (Cond.methodLink "CordCart" (317 : Nat) ({ cls := "CordCart$Cart", name := "throwFailure", desc := "()V" } : MethodName)) ∈ zT := zT_of 932 (by decide +kernel) (by decide +kernel)
theorem zt_933 : (Cond.instanceMethod ({ cls := "CordCart$Cart", name := "throwFailure", desc := "()V" } : MethodName)) ∈ zT := zT_of 933 (by decide +kernel) (by decide +kernel)
theorem zt_934 : (Cond.selects "CordCart$Cart" ({ cls := "CordCart$Cart", name := "throwFailure", desc := "()V" } : MethodName) ({ cls := "CordCart$Cart", name := "throwFailure", desc := "()V" } : MethodName)) ∈ zT := zT_of 934 (by decide +kernel) (by decide +kernel)
theorem zt_936 : (Cond.methodLink "CordCart$Cart" (56 : Nat) ({ cls := "CordCart$Cart", name := "gaps", desc := "()I" } : MethodName)) ∈ zT := zT_of 936 (by decide +kernel) (by decide +kernel)
theorem zt_937 : (Cond.classLink "CordCart$Cart" (57 : Nat) "java/lang/IllegalStateException") ∈ zT := zT_of 937 (by decide +kernel) (by decide +kernel)
theorem zt_1004 : (Cond.methodLink "CordCartLaw" (180 : Nat) ({ cls := "CordCart", name := "clear", desc := "(I)I" } : MethodName)) ∈ zT := zT_of 1004 (by decide +kernel) (by decide +kernel)
theorem zt_1005 : (Cond.instanceMethod ({ cls := "CordCart", name := "clear", desc := "(I)I" } : MethodName)) ∈ zT := zT_of 1005 (by decide +kernel) (by decide +kernel)
theorem zt_1006 : (Cond.selects "CordCart" ({ cls := "CordCart", name := "clear", desc := "(I)I" } : MethodName) ({ cls := "CordCart", name := "clear", desc := "(I)I" } : MethodName)) ∈ zT := zT_of 1006 (by decide +kernel) (by decide +kernel)
theorem zt_1008 : (Cond.methodLink "CordCartLaw" (186 : Nat) ({ cls := "CordCart", name := "put", desc := "(IIJ)I" } : MethodName)) ∈ zT := zT_of 1008 (by decide +kernel) (by decide +kernel)
theorem zt_1009 : (Cond.instanceMethod ({ cls := "CordCart", name := "put", desc := "(IIJ)I" } : MethodName)) ∈ zT := zT_of 1009 (by decide +kernel) (by decide +kernel)
theorem zt_1010 : (Cond.selects "CordCart" ({ cls := "CordCart", name := "put", desc := "(IIJ)I" } : MethodName) ({ cls := "CordCart", name := "put", desc := "(IIJ)I" } : MethodName)) ∈ zT := zT_of 1010 (by decide +kernel) (by decide +kernel)
theorem zt_1012 : (Cond.methodLink "CordCart" (320 : Nat) ({ cls := "CordCart$Tape", name := "isRow", desc := "()Z" } : MethodName)) ∈ zT := zT_of 1012 (by decide +kernel) (by decide +kernel)
theorem zt_1013 : (Cond.instanceMethod ({ cls := "CordCart$Tape", name := "isRow", desc := "()Z" } : MethodName)) ∈ zT := zT_of 1013 (by decide +kernel) (by decide +kernel)
theorem zt_1014 : (Cond.selects "CordCart$Tape" ({ cls := "CordCart$Tape", name := "isRow", desc := "()Z" } : MethodName) ({ cls := "CordCart$Tape", name := "isRow", desc := "()Z" } : MethodName)) ∈ zT := zT_of 1014 (by decide +kernel) (by decide +kernel)
theorem zt_1016 : (Cond.methodLink "CordCart" (324 : Nat) ({ cls := "CordCart$Tape", name := "narrowed", desc := "(JI)J" } : MethodName)) ∈ zT := zT_of 1016 (by decide +kernel) (by decide +kernel)
theorem zt_1017 : (Cond.static ({ cls := "CordCart$Tape", name := "narrowed", desc := "(JI)J" } : MethodName)) ∈ zT := zT_of 1017 (by decide +kernel) (by decide +kernel)
theorem zt_1019 : (Cond.methodLink "CordCartLaw" (194 : Nat) ({ cls := "CordCart", name := "copy", desc := "(IIIII)I" } : MethodName)) ∈ zT := zT_of 1019 (by decide +kernel) (by decide +kernel)
theorem zt_1020 : (Cond.instanceMethod ({ cls := "CordCart", name := "copy", desc := "(IIIII)I" } : MethodName)) ∈ zT := zT_of 1020 (by decide +kernel) (by decide +kernel)
theorem zt_1021 : (Cond.selects "CordCart" ({ cls := "CordCart", name := "copy", desc := "(IIIII)I" } : MethodName) ({ cls := "CordCart", name := "copy", desc := "(IIIII)I" } : MethodName)) ∈ zT := zT_of 1021 (by decide +kernel) (by decide +kernel)
theorem zt_1023 : (Cond.methodLink "CordCart" (332 : Nat) ({ cls := "CordCart$Tape", name := "hasPlaces", desc := "(II)Z" } : MethodName)) ∈ zT := zT_of 1023 (by decide +kernel) (by decide +kernel)
theorem zt_1024 : (Cond.instanceMethod ({ cls := "CordCart$Tape", name := "hasPlaces", desc := "(II)Z" } : MethodName)) ∈ zT := zT_of 1024 (by decide +kernel) (by decide +kernel)
theorem zt_1025 : (Cond.selects "CordCart$Tape" ({ cls := "CordCart$Tape", name := "hasPlaces", desc := "(II)Z" } : MethodName) ({ cls := "CordCart$Tape", name := "hasPlaces", desc := "(II)Z" } : MethodName)) ∈ zT := zT_of 1025 (by decide +kernel) (by decide +kernel)
theorem zt_1027 : (Cond.methodLink "CordCart" (335 : Nat) ({ cls := "java/lang/System", name := "arraycopy", desc := "(Ljava/lang/Object;ILjava/lang/Object;II)V" } : MethodName)) ∈ zT := zT_of 1027 (by decide +kernel) (by decide +kernel)
theorem zt_1028 : (Cond.methodLink "CordCartLaw" (198 : Nat) ({ cls := "CordCart", name := "count", desc := "(I)I" } : MethodName)) ∈ zT := zT_of 1028 (by decide +kernel) (by decide +kernel)
theorem zt_1029 : (Cond.instanceMethod ({ cls := "CordCart", name := "count", desc := "(I)I" } : MethodName)) ∈ zT := zT_of 1029 (by decide +kernel) (by decide +kernel)
theorem zt_1030 : (Cond.selects "CordCart" ({ cls := "CordCart", name := "count", desc := "(I)I" } : MethodName) ({ cls := "CordCart", name := "count", desc := "(I)I" } : MethodName)) ∈ zT := zT_of 1030 (by decide +kernel) (by decide +kernel)
theorem zt_1032 : (Cond.methodLink "CordCartLaw" (87 : Nat) ({ cls := "CordCartLaw", name := "pose", desc := "(LCordCart;I[J)I" } : MethodName)) ∈ zT := zT_of 1032 (by decide +kernel) (by decide +kernel)
theorem zt_1033 : (Cond.static ({ cls := "CordCartLaw", name := "pose", desc := "(LCordCart;I[J)I" } : MethodName)) ∈ zT := zT_of 1033 (by decide +kernel) (by decide +kernel)
theorem zt_1035 : (Cond.classLink "CordCartLaw" (13 : Nat) "java/lang/IllegalArgumentException") ∈ zT := zT_of 1035 (by decide +kernel) (by decide +kernel)
theorem zt_1036 : (Cond.classLink "CordCartLaw" (15 : Nat) "java/lang/IllegalStateException") ∈ zT := zT_of 1036 (by decide +kernel) (by decide +kernel)
theorem zt_1037 : (Cond.methodLink "CordCartLaw" (7 : Nat) ({ cls := "CordCart", name := "pose", desc := "(I)I" } : MethodName)) ∈ zT := zT_of 1037 (by decide +kernel) (by decide +kernel)
theorem zt_1038 : (Cond.instanceMethod ({ cls := "CordCart", name := "pose", desc := "(I)I" } : MethodName)) ∈ zT := zT_of 1038 (by decide +kernel) (by decide +kernel)
theorem zt_1039 : (Cond.selects "CordCart" ({ cls := "CordCart", name := "pose", desc := "(I)I" } : MethodName) ({ cls := "CordCart", name := "pose", desc := "(I)I" } : MethodName)) ∈ zT := zT_of 1039 (by decide +kernel) (by decide +kernel)
theorem zt_1041 : (Cond.classLink "CordCart" (184 : Nat) "java/lang/IllegalArgumentException") ∈ zT := zT_of 1041 (by decide +kernel) (by decide +kernel)
theorem zt_1059 : (Cond.methodLink "CordCart" (215 : Nat) ({ cls := "CordCart$Pose", name := "part", desc := "(I)I" } : MethodName)) ∈ zT := zT_of 1059 (by decide +kernel) (by decide +kernel)
theorem zt_1060 : (Cond.instanceMethod ({ cls := "CordCart$Pose", name := "part", desc := "(I)I" } : MethodName)) ∈ zT := zT_of 1060 (by decide +kernel) (by decide +kernel)
theorem zt_1061 : (Cond.selects "CordCart$Pose" ({ cls := "CordCart$Pose", name := "part", desc := "(I)I" } : MethodName) ({ cls := "CordCart$Pose", name := "part", desc := "(I)I" } : MethodName)) ∈ zT := zT_of 1061 (by decide +kernel) (by decide +kernel)
theorem zt_1063 : (Cond.methodLink "CordCartLaw" (96 : Nat) ({ cls := "CordCartLaw", name := "acted", desc := "(LCordCart;II[J)I" } : MethodName)) ∈ zT := zT_of 1063 (by decide +kernel) (by decide +kernel)
theorem zt_1064 : (Cond.static ({ cls := "CordCartLaw", name := "acted", desc := "(LCordCart;II[J)I" } : MethodName)) ∈ zT := zT_of 1064 (by decide +kernel) (by decide +kernel)
theorem zt_1066 : (Cond.methodLink "CordCartLaw" (17 : Nat) ({ cls := "CordCart", name := "acted", desc := "(II)I" } : MethodName)) ∈ zT := zT_of 1066 (by decide +kernel) (by decide +kernel)
theorem zt_1067 : (Cond.instanceMethod ({ cls := "CordCart", name := "acted", desc := "(II)I" } : MethodName)) ∈ zT := zT_of 1067 (by decide +kernel) (by decide +kernel)
theorem zt_1068 : (Cond.selects "CordCart" ({ cls := "CordCart", name := "acted", desc := "(II)I" } : MethodName) ({ cls := "CordCart", name := "acted", desc := "(II)I" } : MethodName)) ∈ zT := zT_of 1068 (by decide +kernel) (by decide +kernel)
theorem zt_1072 : (Cond.methodLink "CordCartLaw" (104 : Nat) ({ cls := "CordCartLaw", name := "where", desc := "(LCordCart;II[J)I" } : MethodName)) ∈ zT := zT_of 1072 (by decide +kernel) (by decide +kernel)
theorem zt_1073 : (Cond.static ({ cls := "CordCartLaw", name := "where", desc := "(LCordCart;II[J)I" } : MethodName)) ∈ zT := zT_of 1073 (by decide +kernel) (by decide +kernel)
theorem zt_1075 : (Cond.methodLink "CordCartLaw" (21 : Nat) ({ cls := "CordCart", name := "where", desc := "(II)I" } : MethodName)) ∈ zT := zT_of 1075 (by decide +kernel) (by decide +kernel)
theorem zt_1076 : (Cond.instanceMethod ({ cls := "CordCart", name := "where", desc := "(II)I" } : MethodName)) ∈ zT := zT_of 1076 (by decide +kernel) (by decide +kernel)
theorem zt_1077 : (Cond.selects "CordCart" ({ cls := "CordCart", name := "where", desc := "(II)I" } : MethodName) ({ cls := "CordCart", name := "where", desc := "(II)I" } : MethodName)) ∈ zT := zT_of 1077 (by decide +kernel) (by decide +kernel)
theorem zt_1081 : (Cond.methodLink "CordCart" (239 : Nat) ({ cls := "CordCart$Run", name := "takeKinds", desc := "()V" } : MethodName)) ∈ zT := zT_of 1081 (by decide +kernel) (by decide +kernel)
theorem zt_1082 : (Cond.methodLink "CordCart" (242 : Nat) ({ cls := "CordCart$Run", name := "restart", desc := "()V" } : MethodName)) ∈ zT := zT_of 1082 (by decide +kernel) (by decide +kernel)
theorem zt_1083 : (Cond.methodLink "CordCart" (245 : Nat) ({ cls := "CordCart$Run", name := "goOnTo", desc := "(I)V" } : MethodName)) ∈ zT := zT_of 1083 (by decide +kernel) (by decide +kernel)
theorem zt_1084 : (Cond.methodLink "CordCartLaw" (191 : Nat) ({ cls := "CordCartLaw", name := "at", desc := "(LCordCart;II[J)I" } : MethodName)) ∈ zT := zT_of 1084 (by decide +kernel) (by decide +kernel)
theorem zt_1085 : (Cond.static ({ cls := "CordCartLaw", name := "at", desc := "(LCordCart;II[J)I" } : MethodName)) ∈ zT := zT_of 1085 (by decide +kernel) (by decide +kernel)
theorem zt_1087 : (Cond.methodLink "CordCartLaw" (24 : Nat) ({ cls := "CordCart", name := "at", desc := "(II)J" } : MethodName)) ∈ zT := zT_of 1087 (by decide +kernel) (by decide +kernel)
theorem zt_1088 : (Cond.instanceMethod ({ cls := "CordCart", name := "at", desc := "(II)J" } : MethodName)) ∈ zT := zT_of 1088 (by decide +kernel) (by decide +kernel)
theorem zt_1089 : (Cond.selects "CordCart" ({ cls := "CordCart", name := "at", desc := "(II)J" } : MethodName) ({ cls := "CordCart", name := "at", desc := "(II)J" } : MethodName)) ∈ zT := zT_of 1089 (by decide +kernel) (by decide +kernel)
theorem zt_1093 : (Cond.classLink "CordCartLaw" (29 : Nat) "CordCartModel") ∈ zT := zT_of 1093 (by decide +kernel) (by decide +kernel)
theorem zt_1094 : (Cond.instantiable "CordCartModel" (67 : Nat)) ∈ zT := zT_of 1094 (by decide +kernel) (by decide +kernel)
theorem zt_1095 : (Cond.methodLink "CordCartLaw" (31 : Nat) ({ cls := "CordCartModel", name := "<init>", desc := "()V" } : MethodName)) ∈ zT := zT_of 1095 (by decide +kernel) (by decide +kernel)
theorem zt_1096 : (Cond.instanceMethod ({ cls := "CordCartModel", name := "<init>", desc := "()V" } : MethodName)) ∈ zT := zT_of 1096 (by decide +kernel) (by decide +kernel)
theorem zt_1098 : (Cond.methodLink "CordCartModel" (1 : Nat) ({ cls := "java/lang/Object", name := "<init>", desc := "()V" } : MethodName)) ∈ zT := zT_of 1098 (by decide +kernel) (by decide +kernel)
theorem zt_1099 : (Cond.fieldLink "CordCartModel" (154 : Nat) "CordCartModel" "thrown" "I") ∈ zT := zT_of 1099 (by decide +kernel) (by decide +kernel)
theorem zt_1100 : (Cond.fieldLink "CordCartModel" (7 : Nat) "CordCartModel" "many" "[I") ∈ zT := zT_of 1100 (by decide +kernel) (by decide +kernel)
theorem zt_1101 : (Cond.fieldLink "CordCartModel" (13 : Nat) "CordCartModel" "kind" "[I") ∈ zT := zT_of 1101 (by decide +kernel) (by decide +kernel)
theorem zt_1102 : (Cond.fieldLink "CordCartModel" (16 : Nat) "CordCartModel" "length" "[I") ∈ zT := zT_of 1102 (by decide +kernel) (by decide +kernel)
theorem zt_1103 : (Cond.fieldLink "CordCartModel" (19 : Nat) "CordCartModel" "worn" "[I") ∈ zT := zT_of 1103 (by decide +kernel) (by decide +kernel)
theorem zt_1104 : (Cond.fieldLink "CordCartModel" (22 : Nat) "CordCartModel" "hard" "I") ∈ zT := zT_of 1104 (by decide +kernel) (by decide +kernel)
theorem zt_1105 : (Cond.fieldLink "CordCartModel" (160 : Nat) "CordCartModel" "pegs" "I") ∈ zT := zT_of 1105 (by decide +kernel) (by decide +kernel)
theorem zt_1106 : (Cond.fieldLink "CordCartModel" (26 : Nat) "CordCartModel" "pegStep" "[I") ∈ zT := zT_of 1106 (by decide +kernel) (by decide +kernel)
theorem zt_1107 : (Cond.fieldLink "CordCartModel" (29 : Nat) "CordCartModel" "pegAct" "[I") ∈ zT := zT_of 1107 (by decide +kernel) (by decide +kernel)
theorem zt_1108 : (Cond.fieldLink "CordCartModel" (32 : Nat) "CordCartModel" "isBlocked" "[Z") ∈ zT := zT_of 1108 (by decide +kernel) (by decide +kernel)
theorem zt_1109 : (Cond.fieldLink "CordCartModel" (163 : Nat) "CordCartModel" "startX" "I") ∈ zT := zT_of 1109 (by decide +kernel) (by decide +kernel)
theorem zt_1110 : (Cond.fieldLink "CordCartModel" (166 : Nat) "CordCartModel" "startY" "I") ∈ zT := zT_of 1110 (by decide +kernel) (by decide +kernel)
theorem zt_1111 : (Cond.fieldLink "CordCartModel" (169 : Nat) "CordCartModel" "startDirection" "I") ∈ zT := zT_of 1111 (by decide +kernel) (by decide +kernel)
theorem zt_1112 : (Cond.fieldLink "CordCartModel" (36 : Nat) "CordCartModel" "sands" "I") ∈ zT := zT_of 1112 (by decide +kernel) (by decide +kernel)
theorem zt_1113 : (Cond.fieldLink "CordCartModel" (39 : Nat) "CordCartModel" "sand" "[I") ∈ zT := zT_of 1113 (by decide +kernel) (by decide +kernel)
theorem zt_1114 : (Cond.fieldLink "CordCartModel" (42 : Nat) "CordCartModel" "hold" "I") ∈ zT := zT_of 1114 (by decide +kernel) (by decide +kernel)
theorem zt_1115 : (Cond.fieldLink "CordCartModel" (45 : Nat) "CordCartModel" "fall" "I") ∈ zT := zT_of 1115 (by decide +kernel) (by decide +kernel)
theorem zt_1116 : (Cond.fieldLink "CordCartModel" (172 : Nat) "CordCartModel" "parts" "I") ∈ zT := zT_of 1116 (by decide +kernel) (by decide +kernel)
theorem zt_1117 : (Cond.fieldLink "CordCartModel" (48 : Nat) "CordCartModel" "wishKind" "[I") ∈ zT := zT_of 1117 (by decide +kernel) (by decide +kernel)
theorem zt_1118 : (Cond.fieldLink "CordCartModel" (51 : Nat) "CordCartModel" "wishA" "[I") ∈ zT := zT_of 1118 (by decide +kernel) (by decide +kernel)
theorem zt_1119 : (Cond.fieldLink "CordCartModel" (54 : Nat) "CordCartModel" "wishB" "[I") ∈ zT := zT_of 1119 (by decide +kernel) (by decide +kernel)
theorem zt_1120 : (Cond.fieldLink "CordCartModel" (175 : Nat) "CordCartModel" "spots" "I") ∈ zT := zT_of 1120 (by decide +kernel) (by decide +kernel)
theorem zt_1121 : (Cond.fieldLink "CordCartModel" (57 : Nat) "CordCartModel" "spotUnit" "[I") ∈ zT := zT_of 1121 (by decide +kernel) (by decide +kernel)
theorem zt_1122 : (Cond.fieldLink "CordCartModel" (60 : Nat) "CordCartModel" "spotX" "[I") ∈ zT := zT_of 1122 (by decide +kernel) (by decide +kernel)
theorem zt_1123 : (Cond.fieldLink "CordCartModel" (63 : Nat) "CordCartModel" "spotY" "[I") ∈ zT := zT_of 1123 (by decide +kernel) (by decide +kernel)
theorem zt_1124 : (Cond.fieldLink "CordCartModel" (157 : Nat) "CordCartModel" "refusals" "I") ∈ zT := zT_of 1124 (by decide +kernel) (by decide +kernel)
theorem zt_1125 : (Cond.fieldLink "CordCartModel" (178 : Nat) "CordCartModel" "isShown" "Z") ∈ zT := zT_of 1125 (by decide +kernel) (by decide +kernel)
theorem zt_1126 : (Cond.fieldLink "CordCartModel" (66 : Nat) "CordCartModel" "shown" "[I") ∈ zT := zT_of 1126 (by decide +kernel) (by decide +kernel)
theorem zt_1127 : (Cond.fieldLink "CordCartModel" (238 : Nat) "CordCartModel" "noted" "I") ∈ zT := zT_of 1127 (by decide +kernel) (by decide +kernel)
theorem zt_1128 : (Cond.fieldLink "CordCartModel" (69 : Nat) "CordCartModel" "noteAct" "[I") ∈ zT := zT_of 1128 (by decide +kernel) (by decide +kernel)
theorem zt_1129 : (Cond.fieldLink "CordCartModel" (72 : Nat) "CordCartModel" "noteUnit" "[I") ∈ zT := zT_of 1129 (by decide +kernel) (by decide +kernel)
theorem zt_1130 : (Cond.fieldLink "CordCartModel" (75 : Nat) "CordCartModel" "noteX" "[I") ∈ zT := zT_of 1130 (by decide +kernel) (by decide +kernel)
theorem zt_1131 : (Cond.fieldLink "CordCartModel" (78 : Nat) "CordCartModel" "noteY" "[I") ∈ zT := zT_of 1131 (by decide +kernel) (by decide +kernel)
theorem zt_1132 : (Cond.fieldLink "CordCartModel" (262 : Nat) "CordCartModel" "slipsKept" "I") ∈ zT := zT_of 1132 (by decide +kernel) (by decide +kernel)
theorem zt_1133 : (Cond.fieldLink "CordCartModel" (81 : Nat) "CordCartModel" "slipAxle" "[I") ∈ zT := zT_of 1133 (by decide +kernel) (by decide +kernel)
theorem zt_1134 : (Cond.fieldLink "CordCartModel" (84 : Nat) "CordCartModel" "slipSegment" "[I") ∈ zT := zT_of 1134 (by decide +kernel) (by decide +kernel)
theorem zt_1135 : (Cond.fieldLink "CordCartModel" (87 : Nat) "CordCartModel" "slipUnit" "[I") ∈ zT := zT_of 1135 (by decide +kernel) (by decide +kernel)
theorem zt_1136 : (Cond.fieldLink "CordCartModel" (90 : Nat) "CordCartModel" "sort" "[I") ∈ zT := zT_of 1136 (by decide +kernel) (by decide +kernel)
theorem zt_1137 : (Cond.fieldLink "CordCartModel" (93 : Nat) "CordCartModel" "size" "[I") ∈ zT := zT_of 1137 (by decide +kernel) (by decide +kernel)
theorem zt_1138 : (Cond.fieldLink "CordCartModel" (96 : Nat) "CordCartModel" "cells" "[J") ∈ zT := zT_of 1138 (by decide +kernel) (by decide +kernel)
theorem zt_1139 : (Cond.fieldLink "CordCartModel" (100 : Nat) "CordCartModel" "tMany" "[I") ∈ zT := zT_of 1139 (by decide +kernel) (by decide +kernel)
theorem zt_1140 : (Cond.fieldLink "CordCartModel" (103 : Nat) "CordCartModel" "tKind" "[I") ∈ zT := zT_of 1140 (by decide +kernel) (by decide +kernel)
theorem zt_1141 : (Cond.fieldLink "CordCartModel" (106 : Nat) "CordCartModel" "tLength" "[I") ∈ zT := zT_of 1141 (by decide +kernel) (by decide +kernel)
theorem zt_1142 : (Cond.fieldLink "CordCartModel" (109 : Nat) "CordCartModel" "tWorn" "[I") ∈ zT := zT_of 1142 (by decide +kernel) (by decide +kernel)
theorem zt_1143 : (Cond.fieldLink "CordCartModel" (112 : Nat) "CordCartModel" "tHard" "[I") ∈ zT := zT_of 1143 (by decide +kernel) (by decide +kernel)
theorem zt_1144 : (Cond.fieldLink "CordCartModel" (115 : Nat) "CordCartModel" "tPegs" "[I") ∈ zT := zT_of 1144 (by decide +kernel) (by decide +kernel)
theorem zt_1145 : (Cond.fieldLink "CordCartModel" (118 : Nat) "CordCartModel" "tStep" "[I") ∈ zT := zT_of 1145 (by decide +kernel) (by decide +kernel)
theorem zt_1146 : (Cond.fieldLink "CordCartModel" (121 : Nat) "CordCartModel" "tAct" "[I") ∈ zT := zT_of 1146 (by decide +kernel) (by decide +kernel)
theorem zt_1147 : (Cond.fieldLink "CordCartModel" (124 : Nat) "CordCartModel" "run" "[I") ∈ zT := zT_of 1147 (by decide +kernel) (by decide +kernel)
theorem zt_1148 : (Cond.fieldLink "CordCartModel" (127 : Nat) "CordCartModel" "at" "[I") ∈ zT := zT_of 1148 (by decide +kernel) (by decide +kernel)
theorem zt_1149 : (Cond.fieldLink "CordCartModel" (130 : Nat) "CordCartModel" "given" "[I") ∈ zT := zT_of 1149 (by decide +kernel) (by decide +kernel)
theorem zt_1150 : (Cond.fieldLink "CordCartModel" (133 : Nat) "CordCartModel" "turns" "[I") ∈ zT := zT_of 1150 (by decide +kernel) (by decide +kernel)
theorem zt_1151 : (Cond.fieldLink "CordCartModel" (206 : Nat) "CordCartModel" "x" "I") ∈ zT := zT_of 1151 (by decide +kernel) (by decide +kernel)
theorem zt_1152 : (Cond.fieldLink "CordCartModel" (209 : Nat) "CordCartModel" "y" "I") ∈ zT := zT_of 1152 (by decide +kernel) (by decide +kernel)
theorem zt_1153 : (Cond.fieldLink "CordCartModel" (212 : Nat) "CordCartModel" "direction" "I") ∈ zT := zT_of 1153 (by decide +kernel) (by decide +kernel)
theorem zt_1154 : (Cond.fieldLink "CordCartModel" (215 : Nat) "CordCartModel" "phase" "I") ∈ zT := zT_of 1154 (by decide +kernel) (by decide +kernel)
theorem zt_1155 : (Cond.fieldLink "CordCartModel" (218 : Nat) "CordCartModel" "step" "I") ∈ zT := zT_of 1155 (by decide +kernel) (by decide +kernel)
theorem zt_1156 : (Cond.fieldLink "CordCartModel" (221 : Nat) "CordCartModel" "unit" "I") ∈ zT := zT_of 1156 (by decide +kernel) (by decide +kernel)
theorem zt_1157 : (Cond.fieldLink "CordCartModel" (232 : Nat) "CordCartModel" "slippedMany" "I") ∈ zT := zT_of 1157 (by decide +kernel) (by decide +kernel)
theorem zt_1158 : (Cond.fieldLink "CordCartModel" (136 : Nat) "CordCartModel" "far" "[I") ∈ zT := zT_of 1158 (by decide +kernel) (by decide +kernel)
theorem zt_1159 : (Cond.fieldLink "CordCartModel" (139 : Nat) "CordCartModel" "madeMany" "[I") ∈ zT := zT_of 1159 (by decide +kernel) (by decide +kernel)
theorem zt_1160 : (Cond.fieldLink "CordCartModel" (142 : Nat) "CordCartModel" "madeKind" "[I") ∈ zT := zT_of 1160 (by decide +kernel) (by decide +kernel)
theorem zt_1161 : (Cond.fieldLink "CordCartModel" (145 : Nat) "CordCartModel" "madeLength" "[I") ∈ zT := zT_of 1161 (by decide +kernel) (by decide +kernel)
theorem zt_1162 : (Cond.fieldLink "CordCartModel" (288 : Nat) "CordCartModel" "isTooMany" "Z") ∈ zT := zT_of 1162 (by decide +kernel) (by decide +kernel)
theorem zt_1163 : (Cond.fieldLink "CordCartModel" (295 : Nat) "CordCartModel" "madeUnits" "I") ∈ zT := zT_of 1163 (by decide +kernel) (by decide +kernel)
theorem zt_1164 : (Cond.fieldLink "CordCartModel" (148 : Nat) "CordCartModel" "filled" "[I") ∈ zT := zT_of 1164 (by decide +kernel) (by decide +kernel)
theorem zt_1165 : (Cond.fieldLink "CordCartModel" (151 : Nat) "CordCartModel" "shifted" "[J") ∈ zT := zT_of 1165 (by decide +kernel) (by decide +kernel)
theorem zt_1301 : (Cond.methodLink "CordCartLaw" (93 : Nat) ({ cls := "CordCartModel", name := "thrown", desc := "()I" } : MethodName)) ∈ zT := zT_of 1301 (by decide +kernel) (by decide +kernel)
theorem zt_1302 : (Cond.instanceMethod ({ cls := "CordCartModel", name := "thrown", desc := "()I" } : MethodName)) ∈ zT := zT_of 1302 (by decide +kernel) (by decide +kernel)
theorem zt_1303 : (Cond.selects "CordCartModel" ({ cls := "CordCartModel", name := "thrown", desc := "()I" } : MethodName) ({ cls := "CordCartModel", name := "thrown", desc := "()I" } : MethodName)) ∈ zT := zT_of 1303 (by decide +kernel) (by decide +kernel)
theorem zt_1305 : (Cond.methodLink "CordCartLaw" (36 : Nat) ({ cls := "CordCartModel", name := "begin", desc := "()I" } : MethodName)) ∈ zT := zT_of 1305 (by decide +kernel) (by decide +kernel)
theorem zt_1306 : (Cond.instanceMethod ({ cls := "CordCartModel", name := "begin", desc := "()I" } : MethodName)) ∈ zT := zT_of 1306 (by decide +kernel) (by decide +kernel)
theorem zt_1307 : (Cond.selects "CordCartModel" ({ cls := "CordCartModel", name := "begin", desc := "()I" } : MethodName) ({ cls := "CordCartModel", name := "begin", desc := "()I" } : MethodName)) ∈ zT := zT_of 1307 (by decide +kernel) (by decide +kernel)
theorem zt_1309 : (Cond.methodLink "CordCartLaw" (41 : Nat) ({ cls := "CordCartModel", name := "wind", desc := "(IIII)I" } : MethodName)) ∈ zT := zT_of 1309 (by decide +kernel) (by decide +kernel)
theorem zt_1310 : (Cond.instanceMethod ({ cls := "CordCartModel", name := "wind", desc := "(IIII)I" } : MethodName)) ∈ zT := zT_of 1310 (by decide +kernel) (by decide +kernel)
theorem zt_1311 : (Cond.selects "CordCartModel" ({ cls := "CordCartModel", name := "wind", desc := "(IIII)I" } : MethodName) ({ cls := "CordCartModel", name := "wind", desc := "(IIII)I" } : MethodName)) ∈ zT := zT_of 1311 (by decide +kernel) (by decide +kernel)
theorem zt_1313 : (Cond.methodLink "CordCartModel" (186 : Nat) ({ cls := "CordCartModel", name := "isAxle", desc := "(I)Z" } : MethodName)) ∈ zT := zT_of 1313 (by decide +kernel) (by decide +kernel)
theorem zt_1314 : (Cond.static ({ cls := "CordCartModel", name := "isAxle", desc := "(I)Z" } : MethodName)) ∈ zT := zT_of 1314 (by decide +kernel) (by decide +kernel)
theorem zt_1316 : (Cond.methodLink "CordCartModel" (182 : Nat) ({ cls := "CordCartModel", name := "in", desc := "(III)Z" } : MethodName)) ∈ zT := zT_of 1316 (by decide +kernel) (by decide +kernel)
theorem zt_1317 : (Cond.static ({ cls := "CordCartModel", name := "in", desc := "(III)Z" } : MethodName)) ∈ zT := zT_of 1317 (by decide +kernel) (by decide +kernel)
theorem zt_1319 : (Cond.methodLink "CordCartLaw" (45 : Nat) ({ cls := "CordCartModel", name := "unwind", desc := "(I)I" } : MethodName)) ∈ zT := zT_of 1319 (by decide +kernel) (by decide +kernel)
theorem zt_1320 : (Cond.instanceMethod ({ cls := "CordCartModel", name := "unwind", desc := "(I)I" } : MethodName)) ∈ zT := zT_of 1320 (by decide +kernel) (by decide +kernel)
theorem zt_1321 : (Cond.selects "CordCartModel" ({ cls := "CordCartModel", name := "unwind", desc := "(I)I" } : MethodName) ({ cls := "CordCartModel", name := "unwind", desc := "(I)I" } : MethodName)) ∈ zT := zT_of 1321 (by decide +kernel) (by decide +kernel)
theorem zt_1323 : (Cond.methodLink "CordCartLaw" (50 : Nat) ({ cls := "CordCartModel", name := "segment", desc := "(III)I" } : MethodName)) ∈ zT := zT_of 1323 (by decide +kernel) (by decide +kernel)
theorem zt_1324 : (Cond.instanceMethod ({ cls := "CordCartModel", name := "segment", desc := "(III)I" } : MethodName)) ∈ zT := zT_of 1324 (by decide +kernel) (by decide +kernel)
theorem zt_1325 : (Cond.selects "CordCartModel" ({ cls := "CordCartModel", name := "segment", desc := "(III)I" } : MethodName) ({ cls := "CordCartModel", name := "segment", desc := "(III)I" } : MethodName)) ∈ zT := zT_of 1325 (by decide +kernel) (by decide +kernel)
theorem zt_1327 : (Cond.methodLink "CordCartLaw" (54 : Nat) ({ cls := "CordCartModel", name := "hard", desc := "(I)I" } : MethodName)) ∈ zT := zT_of 1327 (by decide +kernel) (by decide +kernel)
theorem zt_1328 : (Cond.instanceMethod ({ cls := "CordCartModel", name := "hard", desc := "(I)I" } : MethodName)) ∈ zT := zT_of 1328 (by decide +kernel) (by decide +kernel)
theorem zt_1329 : (Cond.selects "CordCartModel" ({ cls := "CordCartModel", name := "hard", desc := "(I)I" } : MethodName) ({ cls := "CordCartModel", name := "hard", desc := "(I)I" } : MethodName)) ∈ zT := zT_of 1329 (by decide +kernel) (by decide +kernel)
theorem zt_1331 : (Cond.methodLink "CordCartLaw" (58 : Nat) ({ cls := "CordCartModel", name := "peg", desc := "(II)I" } : MethodName)) ∈ zT := zT_of 1331 (by decide +kernel) (by decide +kernel)
theorem zt_1332 : (Cond.instanceMethod ({ cls := "CordCartModel", name := "peg", desc := "(II)I" } : MethodName)) ∈ zT := zT_of 1332 (by decide +kernel) (by decide +kernel)
theorem zt_1333 : (Cond.selects "CordCartModel" ({ cls := "CordCartModel", name := "peg", desc := "(II)I" } : MethodName) ({ cls := "CordCartModel", name := "peg", desc := "(II)I" } : MethodName)) ∈ zT := zT_of 1333 (by decide +kernel) (by decide +kernel)
theorem zt_1335 : (Cond.methodLink "CordCartModel" (190 : Nat) ({ cls := "CordCartModel", name := "pegAt", desc := "(I)I" } : MethodName)) ∈ zT := zT_of 1335 (by decide +kernel) (by decide +kernel)
theorem zt_1337 : (Cond.instanceMethod ({ cls := "CordCartModel", name := "pegAt", desc := "(I)I" } : MethodName)) ∈ zT := zT_of 1337 (by decide +kernel) (by decide +kernel)
theorem zt_1339 : (Cond.methodLink "CordCartLaw" (62 : Nat) ({ cls := "CordCartModel", name := "start", desc := "(III)I" } : MethodName)) ∈ zT := zT_of 1339 (by decide +kernel) (by decide +kernel)
theorem zt_1340 : (Cond.instanceMethod ({ cls := "CordCartModel", name := "start", desc := "(III)I" } : MethodName)) ∈ zT := zT_of 1340 (by decide +kernel) (by decide +kernel)
theorem zt_1341 : (Cond.selects "CordCartModel" ({ cls := "CordCartModel", name := "start", desc := "(III)I" } : MethodName) ({ cls := "CordCartModel", name := "start", desc := "(III)I" } : MethodName)) ∈ zT := zT_of 1341 (by decide +kernel) (by decide +kernel)
theorem zt_1343 : (Cond.methodLink "CordCartModel" (194 : Nat) ({ cls := "CordCartModel", name := "isCell", desc := "(II)Z" } : MethodName)) ∈ zT := zT_of 1343 (by decide +kernel) (by decide +kernel)
theorem zt_1344 : (Cond.static ({ cls := "CordCartModel", name := "isCell", desc := "(II)Z" } : MethodName)) ∈ zT := zT_of 1344 (by decide +kernel) (by decide +kernel)
theorem zt_1346 : (Cond.methodLink "CordCartLaw" (66 : Nat) ({ cls := "CordCartModel", name := "block", desc := "(II)I" } : MethodName)) ∈ zT := zT_of 1346 (by decide +kernel) (by decide +kernel)
theorem zt_1347 : (Cond.instanceMethod ({ cls := "CordCartModel", name := "block", desc := "(II)I" } : MethodName)) ∈ zT := zT_of 1347 (by decide +kernel) (by decide +kernel)
theorem zt_1348 : (Cond.selects "CordCartModel" ({ cls := "CordCartModel", name := "block", desc := "(II)I" } : MethodName) ({ cls := "CordCartModel", name := "block", desc := "(II)I" } : MethodName)) ∈ zT := zT_of 1348 (by decide +kernel) (by decide +kernel)
theorem zt_1350 : (Cond.methodLink "CordCartLaw" (70 : Nat) ({ cls := "CordCartModel", name := "sand", desc := "(II)I" } : MethodName)) ∈ zT := zT_of 1350 (by decide +kernel) (by decide +kernel)
theorem zt_1351 : (Cond.instanceMethod ({ cls := "CordCartModel", name := "sand", desc := "(II)I" } : MethodName)) ∈ zT := zT_of 1351 (by decide +kernel) (by decide +kernel)
theorem zt_1352 : (Cond.selects "CordCartModel" ({ cls := "CordCartModel", name := "sand", desc := "(II)I" } : MethodName) ({ cls := "CordCartModel", name := "sand", desc := "(II)I" } : MethodName)) ∈ zT := zT_of 1352 (by decide +kernel) (by decide +kernel)
theorem zt_1354 : (Cond.methodLink "CordCartModel" (198 : Nat) ({ cls := "CordCartModel", name := "isTape", desc := "(I)Z" } : MethodName)) ∈ zT := zT_of 1354 (by decide +kernel) (by decide +kernel)
theorem zt_1355 : (Cond.static ({ cls := "CordCartModel", name := "isTape", desc := "(I)Z" } : MethodName)) ∈ zT := zT_of 1355 (by decide +kernel) (by decide +kernel)
theorem zt_1357 : (Cond.methodLink "CordCartModel" (201 : Nat) ({ cls := "CordCartModel", name := "refuse", desc := "(I)I" } : MethodName)) ∈ zT := zT_of 1357 (by decide +kernel) (by decide +kernel)
theorem zt_1359 : (Cond.instanceMethod ({ cls := "CordCartModel", name := "refuse", desc := "(I)I" } : MethodName)) ∈ zT := zT_of 1359 (by decide +kernel) (by decide +kernel)
theorem zt_1361 : (Cond.constantLong "CordCartModel" (204 : Nat) (9 : Int64)) ∈ zT := zT_of 1361 (by decide +kernel) (by decide +kernel)
theorem zt_1362 : (Cond.methodLink "CordCartLaw" (74 : Nat) ({ cls := "CordCartModel", name := "hold", desc := "(I)I" } : MethodName)) ∈ zT := zT_of 1362 (by decide +kernel) (by decide +kernel)
theorem zt_1363 : (Cond.instanceMethod ({ cls := "CordCartModel", name := "hold", desc := "(I)I" } : MethodName)) ∈ zT := zT_of 1363 (by decide +kernel) (by decide +kernel)
theorem zt_1364 : (Cond.selects "CordCartModel" ({ cls := "CordCartModel", name := "hold", desc := "(I)I" } : MethodName) ({ cls := "CordCartModel", name := "hold", desc := "(I)I" } : MethodName)) ∈ zT := zT_of 1364 (by decide +kernel) (by decide +kernel)
theorem zt_1366 : (Cond.methodLink "CordCartLaw" (78 : Nat) ({ cls := "CordCartModel", name := "fall", desc := "(I)I" } : MethodName)) ∈ zT := zT_of 1366 (by decide +kernel) (by decide +kernel)
theorem zt_1367 : (Cond.instanceMethod ({ cls := "CordCartModel", name := "fall", desc := "(I)I" } : MethodName)) ∈ zT := zT_of 1367 (by decide +kernel) (by decide +kernel)
theorem zt_1368 : (Cond.selects "CordCartModel" ({ cls := "CordCartModel", name := "fall", desc := "(I)I" } : MethodName) ({ cls := "CordCartModel", name := "fall", desc := "(I)I" } : MethodName)) ∈ zT := zT_of 1368 (by decide +kernel) (by decide +kernel)
theorem zt_1370 : (Cond.methodLink "CordCartLaw" (82 : Nat) ({ cls := "CordCartModel", name := "cord", desc := "(I)I" } : MethodName)) ∈ zT := zT_of 1370 (by decide +kernel) (by decide +kernel)
theorem zt_1371 : (Cond.instanceMethod ({ cls := "CordCartModel", name := "cord", desc := "(I)I" } : MethodName)) ∈ zT := zT_of 1371 (by decide +kernel) (by decide +kernel)
theorem zt_1372 : (Cond.selects "CordCartModel" ({ cls := "CordCartModel", name := "cord", desc := "(I)I" } : MethodName) ({ cls := "CordCartModel", name := "cord", desc := "(I)I" } : MethodName)) ∈ zT := zT_of 1372 (by decide +kernel) (by decide +kernel)
theorem zt_1374 : (Cond.methodLink "CordCartLaw" (86 : Nat) ({ cls := "CordCartModel", name := "show", desc := "()I" } : MethodName)) ∈ zT := zT_of 1374 (by decide +kernel) (by decide +kernel)
theorem zt_1375 : (Cond.instanceMethod ({ cls := "CordCartModel", name := "show", desc := "()I" } : MethodName)) ∈ zT := zT_of 1375 (by decide +kernel) (by decide +kernel)
theorem zt_1376 : (Cond.selects "CordCartModel" ({ cls := "CordCartModel", name := "show", desc := "()I" } : MethodName) ({ cls := "CordCartModel", name := "show", desc := "()I" } : MethodName)) ∈ zT := zT_of 1376 (by decide +kernel) (by decide +kernel)
theorem zt_1378 : (Cond.methodLink "CordCartModel" (241 : Nat) ({ cls := "CordCartModel", name := "unknowns", desc := "()I" } : MethodName)) ∈ zT := zT_of 1378 (by decide +kernel) (by decide +kernel)
theorem zt_1380 : (Cond.instanceMethod ({ cls := "CordCartModel", name := "unknowns", desc := "()I" } : MethodName)) ∈ zT := zT_of 1380 (by decide +kernel) (by decide +kernel)
theorem zt_1382 : (Cond.methodLink "CordCartModel" (245 : Nat) ({ cls := "CordCartModel", name := "sets", desc := "()V" } : MethodName)) ∈ zT := zT_of 1382 (by decide +kernel) (by decide +kernel)
theorem zt_1384 : (Cond.instanceMethod ({ cls := "CordCartModel", name := "sets", desc := "()V" } : MethodName)) ∈ zT := zT_of 1384 (by decide +kernel) (by decide +kernel)
theorem zt_1386 : (Cond.methodLink "CordCartModel" (248 : Nat) ({ cls := "CordCartModel", name := "isOut", desc := "()Z" } : MethodName)) ∈ zT := zT_of 1386 (by decide +kernel) (by decide +kernel)
theorem zt_1388 : (Cond.instanceMethod ({ cls := "CordCartModel", name := "isOut", desc := "()Z" } : MethodName)) ∈ zT := zT_of 1388 (by decide +kernel) (by decide +kernel)
theorem zt_1390 : (Cond.methodLink "CordCartModel" (252 : Nat) ({ cls := "CordCartModel", name := "falls", desc := "(Z)V" } : MethodName)) ∈ zT := zT_of 1390 (by decide +kernel) (by decide +kernel)
theorem zt_1392 : (Cond.instanceMethod ({ cls := "CordCartModel", name := "falls", desc := "(Z)V" } : MethodName)) ∈ zT := zT_of 1392 (by decide +kernel) (by decide +kernel)
theorem zt_1394 : (Cond.methodLink "CordCartModel" (224 : Nat) ({ cls := "CordCartModel", name := "slipsAt", desc := "(II)V" } : MethodName)) ∈ zT := zT_of 1394 (by decide +kernel) (by decide +kernel)
theorem zt_1396 : (Cond.instanceMethod ({ cls := "CordCartModel", name := "slipsAt", desc := "(II)V" } : MethodName)) ∈ zT := zT_of 1396 (by decide +kernel) (by decide +kernel)
theorem zt_1398 : (Cond.methodLink "CordCartModel" (228 : Nat) ({ cls := "CordCartModel", name := "half", desc := "(IZ)I" } : MethodName)) ∈ zT := zT_of 1398 (by decide +kernel) (by decide +kernel)
theorem zt_1399 : (Cond.static ({ cls := "CordCartModel", name := "half", desc := "(IZ)I" } : MethodName)) ∈ zT := zT_of 1399 (by decide +kernel) (by decide +kernel)
theorem zt_1401 : (Cond.methodLink "CordCartModel" (256 : Nat) ({ cls := "CordCartModel", name := "notes", desc := "()V" } : MethodName)) ∈ zT := zT_of 1401 (by decide +kernel) (by decide +kernel)
theorem zt_1403 : (Cond.instanceMethod ({ cls := "CordCartModel", name := "notes", desc := "()V" } : MethodName)) ∈ zT := zT_of 1403 (by decide +kernel) (by decide +kernel)
theorem zt_1405 : (Cond.methodLink "CordCartModel" (235 : Nat) ({ cls := "CordCartModel", name := "cellOf", desc := "(I)I" } : MethodName)) ∈ zT := zT_of 1405 (by decide +kernel) (by decide +kernel)
theorem zt_1406 : (Cond.static ({ cls := "CordCartModel", name := "cellOf", desc := "(I)I" } : MethodName)) ∈ zT := zT_of 1406 (by decide +kernel) (by decide +kernel)
theorem zt_1408 : (Cond.methodLink "CordCartModel" (259 : Nat) ({ cls := "CordCartModel", name := "isBad", desc := "()Z" } : MethodName)) ∈ zT := zT_of 1408 (by decide +kernel) (by decide +kernel)
theorem zt_1410 : (Cond.instanceMethod ({ cls := "CordCartModel", name := "isBad", desc := "()Z" } : MethodName)) ∈ zT := zT_of 1410 (by decide +kernel) (by decide +kernel)
theorem zt_1412 : (Cond.methodLink "CordCartLaw" (92 : Nat) ({ cls := "CordCartModel", name := "pose", desc := "(I)I" } : MethodName)) ∈ zT := zT_of 1412 (by decide +kernel) (by decide +kernel)
theorem zt_1413 : (Cond.instanceMethod ({ cls := "CordCartModel", name := "pose", desc := "(I)I" } : MethodName)) ∈ zT := zT_of 1413 (by decide +kernel) (by decide +kernel)
theorem zt_1414 : (Cond.selects "CordCartModel" ({ cls := "CordCartModel", name := "pose", desc := "(I)I" } : MethodName) ({ cls := "CordCartModel", name := "pose", desc := "(I)I" } : MethodName)) ∈ zT := zT_of 1414 (by decide +kernel) (by decide +kernel)
theorem zt_1416 : (Cond.methodLink "CordCartLaw" (99 : Nat) ({ cls := "CordCartModel", name := "acted", desc := "(II)I" } : MethodName)) ∈ zT := zT_of 1416 (by decide +kernel) (by decide +kernel)
theorem zt_1417 : (Cond.instanceMethod ({ cls := "CordCartModel", name := "acted", desc := "(II)I" } : MethodName)) ∈ zT := zT_of 1417 (by decide +kernel) (by decide +kernel)
theorem zt_1418 : (Cond.selects "CordCartModel" ({ cls := "CordCartModel", name := "acted", desc := "(II)I" } : MethodName) ({ cls := "CordCartModel", name := "acted", desc := "(II)I" } : MethodName)) ∈ zT := zT_of 1418 (by decide +kernel) (by decide +kernel)
theorem zt_1420 : (Cond.methodLink "CordCartLaw" (103 : Nat) ({ cls := "CordCartModel", name := "slipped", desc := "(II)I" } : MethodName)) ∈ zT := zT_of 1420 (by decide +kernel) (by decide +kernel)
theorem zt_1421 : (Cond.instanceMethod ({ cls := "CordCartModel", name := "slipped", desc := "(II)I" } : MethodName)) ∈ zT := zT_of 1421 (by decide +kernel) (by decide +kernel)
theorem zt_1422 : (Cond.selects "CordCartModel" ({ cls := "CordCartModel", name := "slipped", desc := "(II)I" } : MethodName) ({ cls := "CordCartModel", name := "slipped", desc := "(II)I" } : MethodName)) ∈ zT := zT_of 1422 (by decide +kernel) (by decide +kernel)
theorem zt_1424 : (Cond.methodLink "CordCartLaw" (106 : Nat) ({ cls := "CordCartModel", name := "where", desc := "(II)I" } : MethodName)) ∈ zT := zT_of 1424 (by decide +kernel) (by decide +kernel)
theorem zt_1425 : (Cond.instanceMethod ({ cls := "CordCartModel", name := "where", desc := "(II)I" } : MethodName)) ∈ zT := zT_of 1425 (by decide +kernel) (by decide +kernel)
theorem zt_1426 : (Cond.selects "CordCartModel" ({ cls := "CordCartModel", name := "where", desc := "(II)I" } : MethodName) ({ cls := "CordCartModel", name := "where", desc := "(II)I" } : MethodName)) ∈ zT := zT_of 1426 (by decide +kernel) (by decide +kernel)
theorem zt_1428 : (Cond.methodLink "CordCartModel" (265 : Nat) ({ cls := "CordCartModel", name := "goes", desc := "(I)V" } : MethodName)) ∈ zT := zT_of 1428 (by decide +kernel) (by decide +kernel)
theorem zt_1430 : (Cond.instanceMethod ({ cls := "CordCartModel", name := "goes", desc := "(I)V" } : MethodName)) ∈ zT := zT_of 1430 (by decide +kernel) (by decide +kernel)
theorem zt_1432 : (Cond.methodLink "CordCartLaw" (110 : Nat) ({ cls := "CordCartModel", name := "wish", desc := "(III)I" } : MethodName)) ∈ zT := zT_of 1432 (by decide +kernel) (by decide +kernel)
theorem zt_1433 : (Cond.instanceMethod ({ cls := "CordCartModel", name := "wish", desc := "(III)I" } : MethodName)) ∈ zT := zT_of 1433 (by decide +kernel) (by decide +kernel)
theorem zt_1434 : (Cond.selects "CordCartModel" ({ cls := "CordCartModel", name := "wish", desc := "(III)I" } : MethodName) ({ cls := "CordCartModel", name := "wish", desc := "(III)I" } : MethodName)) ∈ zT := zT_of 1434 (by decide +kernel) (by decide +kernel)
theorem zt_1436 : (Cond.methodLink "CordCartLaw" (114 : Nat) ({ cls := "CordCartModel", name := "wishless", desc := "()I" } : MethodName)) ∈ zT := zT_of 1436 (by decide +kernel) (by decide +kernel)
theorem zt_1437 : (Cond.instanceMethod ({ cls := "CordCartModel", name := "wishless", desc := "()I" } : MethodName)) ∈ zT := zT_of 1437 (by decide +kernel) (by decide +kernel)
theorem zt_1438 : (Cond.selects "CordCartModel" ({ cls := "CordCartModel", name := "wishless", desc := "()I" } : MethodName) ({ cls := "CordCartModel", name := "wishless", desc := "()I" } : MethodName)) ∈ zT := zT_of 1438 (by decide +kernel) (by decide +kernel)
theorem zt_1440 : (Cond.methodLink "CordCartLaw" (119 : Nat) ({ cls := "CordCartModel", name := "way", desc := "(IIIII)I" } : MethodName)) ∈ zT := zT_of 1440 (by decide +kernel) (by decide +kernel)
theorem zt_1441 : (Cond.instanceMethod ({ cls := "CordCartModel", name := "way", desc := "(IIIII)I" } : MethodName)) ∈ zT := zT_of 1441 (by decide +kernel) (by decide +kernel)
theorem zt_1442 : (Cond.selects "CordCartModel" ({ cls := "CordCartModel", name := "way", desc := "(IIIII)I" } : MethodName) ({ cls := "CordCartModel", name := "way", desc := "(IIIII)I" } : MethodName)) ∈ zT := zT_of 1442 (by decide +kernel) (by decide +kernel)
theorem zt_1444 : (Cond.methodLink "CordCartModel" (285 : Nat) ({ cls := "CordCartModel", name := "reckons", desc := "(II)V" } : MethodName)) ∈ zT := zT_of 1444 (by decide +kernel) (by decide +kernel)
theorem zt_1446 : (Cond.instanceMethod ({ cls := "CordCartModel", name := "reckons", desc := "(II)V" } : MethodName)) ∈ zT := zT_of 1446 (by decide +kernel) (by decide +kernel)
theorem zt_1448 : (Cond.methodLink "CordCartModel" (275 : Nat) ({ cls := "CordCartModel", name := "isFree", desc := "(II)Z" } : MethodName)) ∈ zT := zT_of 1448 (by decide +kernel) (by decide +kernel)
theorem zt_1450 : (Cond.instanceMethod ({ cls := "CordCartModel", name := "isFree", desc := "(II)Z" } : MethodName)) ∈ zT := zT_of 1450 (by decide +kernel) (by decide +kernel)
theorem zt_1452 : (Cond.methodLink "CordCartModel" (278 : Nat) ({ cls := "CordCartModel", name := "moved", desc := "(II)I" } : MethodName)) ∈ zT := zT_of 1452 (by decide +kernel) (by decide +kernel)
theorem zt_1454 : (Cond.instanceMethod ({ cls := "CordCartModel", name := "moved", desc := "(II)I" } : MethodName)) ∈ zT := zT_of 1454 (by decide +kernel) (by decide +kernel)
theorem zt_1456 : (Cond.methodLink "CordCartModel" (269 : Nat) ({ cls := "CordCartModel", name := "aheadX", desc := "(I)I" } : MethodName)) ∈ zT := zT_of 1456 (by decide +kernel) (by decide +kernel)
theorem zt_1457 : (Cond.static ({ cls := "CordCartModel", name := "aheadX", desc := "(I)I" } : MethodName)) ∈ zT := zT_of 1457 (by decide +kernel) (by decide +kernel)
theorem zt_1459 : (Cond.methodLink "CordCartModel" (272 : Nat) ({ cls := "CordCartModel", name := "aheadY", desc := "(I)I" } : MethodName)) ∈ zT := zT_of 1459 (by decide +kernel) (by decide +kernel)
theorem zt_1460 : (Cond.static ({ cls := "CordCartModel", name := "aheadY", desc := "(I)I" } : MethodName)) ∈ zT := zT_of 1460 (by decide +kernel) (by decide +kernel)
theorem zt_1462 : (Cond.methodLink "CordCartModel" (282 : Nat) ({ cls := "CordCartModel", name := "price", desc := "(I)I" } : MethodName)) ∈ zT := zT_of 1462 (by decide +kernel) (by decide +kernel)
theorem zt_1464 : (Cond.instanceMethod ({ cls := "CordCartModel", name := "price", desc := "(I)I" } : MethodName)) ∈ zT := zT_of 1464 (by decide +kernel) (by decide +kernel)
theorem zt_1466 : (Cond.methodLink "CordCartLaw" (123 : Nat) ({ cls := "CordCartModel", name := "make", desc := "()I" } : MethodName)) ∈ zT := zT_of 1466 (by decide +kernel) (by decide +kernel)
theorem zt_1467 : (Cond.instanceMethod ({ cls := "CordCartModel", name := "make", desc := "()I" } : MethodName)) ∈ zT := zT_of 1467 (by decide +kernel) (by decide +kernel)
theorem zt_1468 : (Cond.selects "CordCartModel" ({ cls := "CordCartModel", name := "make", desc := "()I" } : MethodName) ({ cls := "CordCartModel", name := "make", desc := "()I" } : MethodName)) ∈ zT := zT_of 1468 (by decide +kernel) (by decide +kernel)
theorem zt_1470 : (Cond.methodLink "CordCartModel" (305 : Nat) ({ cls := "CordCartModel", name := "makes", desc := "()I" } : MethodName)) ∈ zT := zT_of 1470 (by decide +kernel) (by decide +kernel)
theorem zt_1472 : (Cond.instanceMethod ({ cls := "CordCartModel", name := "makes", desc := "()I" } : MethodName)) ∈ zT := zT_of 1472 (by decide +kernel) (by decide +kernel)
theorem zt_1474 : (Cond.methodLink "CordCartModel" (298 : Nat) ({ cls := "CordCartModel", name := "windsAll", desc := "(IIII)V" } : MethodName)) ∈ zT := zT_of 1474 (by decide +kernel) (by decide +kernel)
theorem zt_1476 : (Cond.instanceMethod ({ cls := "CordCartModel", name := "windsAll", desc := "(IIII)V" } : MethodName)) ∈ zT := zT_of 1476 (by decide +kernel) (by decide +kernel)
theorem zt_1478 : (Cond.methodLink "CordCartModel" (291 : Nat) ({ cls := "CordCartModel", name := "winds", desc := "(III)V" } : MethodName)) ∈ zT := zT_of 1478 (by decide +kernel) (by decide +kernel)
theorem zt_1480 : (Cond.instanceMethod ({ cls := "CordCartModel", name := "winds", desc := "(III)V" } : MethodName)) ∈ zT := zT_of 1480 (by decide +kernel) (by decide +kernel)
theorem zt_1482 : (Cond.methodLink "CordCartModel" (302 : Nat) ({ cls := "CordCartModel", name := "turnsTo", desc := "(Z)V" } : MethodName)) ∈ zT := zT_of 1482 (by decide +kernel) (by decide +kernel)
theorem zt_1484 : (Cond.instanceMethod ({ cls := "CordCartModel", name := "turnsTo", desc := "(Z)V" } : MethodName)) ∈ zT := zT_of 1484 (by decide +kernel) (by decide +kernel)
theorem zt_1486 : (Cond.methodLink "CordCartLaw" (163 : Nat) ({ cls := "CordCartModel", name := "reads", desc := "()I" } : MethodName)) ∈ zT := zT_of 1486 (by decide +kernel) (by decide +kernel)
theorem zt_1487 : (Cond.instanceMethod ({ cls := "CordCartModel", name := "reads", desc := "()I" } : MethodName)) ∈ zT := zT_of 1487 (by decide +kernel) (by decide +kernel)
theorem zt_1488 : (Cond.selects "CordCartModel" ({ cls := "CordCartModel", name := "reads", desc := "()I" } : MethodName) ({ cls := "CordCartModel", name := "reads", desc := "()I" } : MethodName)) ∈ zT := zT_of 1488 (by decide +kernel) (by decide +kernel)
theorem zt_1490 : (Cond.methodLink "CordCartLaw" (127 : Nat) ({ cls := "CordCartModel", name := "spot", desc := "(III)I" } : MethodName)) ∈ zT := zT_of 1490 (by decide +kernel) (by decide +kernel)
theorem zt_1491 : (Cond.instanceMethod ({ cls := "CordCartModel", name := "spot", desc := "(III)I" } : MethodName)) ∈ zT := zT_of 1491 (by decide +kernel) (by decide +kernel)
theorem zt_1492 : (Cond.selects "CordCartModel" ({ cls := "CordCartModel", name := "spot", desc := "(III)I" } : MethodName) ({ cls := "CordCartModel", name := "spot", desc := "(III)I" } : MethodName)) ∈ zT := zT_of 1492 (by decide +kernel) (by decide +kernel)
theorem zt_1494 : (Cond.methodLink "CordCartLaw" (131 : Nat) ({ cls := "CordCartModel", name := "spotless", desc := "()I" } : MethodName)) ∈ zT := zT_of 1494 (by decide +kernel) (by decide +kernel)
theorem zt_1495 : (Cond.instanceMethod ({ cls := "CordCartModel", name := "spotless", desc := "()I" } : MethodName)) ∈ zT := zT_of 1495 (by decide +kernel) (by decide +kernel)
theorem zt_1496 : (Cond.selects "CordCartModel" ({ cls := "CordCartModel", name := "spotless", desc := "()I" } : MethodName) ({ cls := "CordCartModel", name := "spotless", desc := "()I" } : MethodName)) ∈ zT := zT_of 1496 (by decide +kernel) (by decide +kernel)
theorem zt_1498 : (Cond.methodLink "CordCartLaw" (135 : Nat) ({ cls := "CordCartModel", name := "miss", desc := "()I" } : MethodName)) ∈ zT := zT_of 1498 (by decide +kernel) (by decide +kernel)
theorem zt_1499 : (Cond.instanceMethod ({ cls := "CordCartModel", name := "miss", desc := "()I" } : MethodName)) ∈ zT := zT_of 1499 (by decide +kernel) (by decide +kernel)
theorem zt_1500 : (Cond.selects "CordCartModel" ({ cls := "CordCartModel", name := "miss", desc := "()I" } : MethodName) ({ cls := "CordCartModel", name := "miss", desc := "()I" } : MethodName)) ∈ zT := zT_of 1500 (by decide +kernel) (by decide +kernel)
theorem zt_1502 : (Cond.methodLink "CordCartModel" (308 : Nat) ({ cls := "CordCartModel", name := "misses", desc := "(Z)I" } : MethodName)) ∈ zT := zT_of 1502 (by decide +kernel) (by decide +kernel)
theorem zt_1504 : (Cond.instanceMethod ({ cls := "CordCartModel", name := "misses", desc := "(Z)I" } : MethodName)) ∈ zT := zT_of 1504 (by decide +kernel) (by decide +kernel)
theorem zt_1506 : (Cond.methodLink "CordCartLaw" (139 : Nat) ({ cls := "CordCartModel", name := "fillings", desc := "()I" } : MethodName)) ∈ zT := zT_of 1506 (by decide +kernel) (by decide +kernel)
theorem zt_1507 : (Cond.instanceMethod ({ cls := "CordCartModel", name := "fillings", desc := "()I" } : MethodName)) ∈ zT := zT_of 1507 (by decide +kernel) (by decide +kernel)
theorem zt_1508 : (Cond.selects "CordCartModel" ({ cls := "CordCartModel", name := "fillings", desc := "()I" } : MethodName) ({ cls := "CordCartModel", name := "fillings", desc := "()I" } : MethodName)) ∈ zT := zT_of 1508 (by decide +kernel) (by decide +kernel)
theorem zt_1510 : (Cond.methodLink "CordCartModel" (316 : Nat) ({ cls := "CordCartModel", name := "power", desc := "(I)I" } : MethodName)) ∈ zT := zT_of 1510 (by decide +kernel) (by decide +kernel)
theorem zt_1511 : (Cond.static ({ cls := "CordCartModel", name := "power", desc := "(I)I" } : MethodName)) ∈ zT := zT_of 1511 (by decide +kernel) (by decide +kernel)
theorem zt_1513 : (Cond.methodLink "CordCartModel" (319 : Nat) ({ cls := "CordCartModel", name := "agrees", desc := "(I)Z" } : MethodName)) ∈ zT := zT_of 1513 (by decide +kernel) (by decide +kernel)
theorem zt_1515 : (Cond.instanceMethod ({ cls := "CordCartModel", name := "agrees", desc := "(I)Z" } : MethodName)) ∈ zT := zT_of 1515 (by decide +kernel) (by decide +kernel)
theorem zt_1517 : (Cond.methodLink "CordCartModel" (312 : Nat) ({ cls := "CordCartModel", name := "fills", desc := "([II)V" } : MethodName)) ∈ zT := zT_of 1517 (by decide +kernel) (by decide +kernel)
theorem zt_1519 : (Cond.instanceMethod ({ cls := "CordCartModel", name := "fills", desc := "([II)V" } : MethodName)) ∈ zT := zT_of 1519 (by decide +kernel) (by decide +kernel)
theorem zt_1521 : (Cond.methodLink "CordCartLaw" (143 : Nat) ({ cls := "CordCartModel", name := "filling", desc := "(I)I" } : MethodName)) ∈ zT := zT_of 1521 (by decide +kernel) (by decide +kernel)
theorem zt_1522 : (Cond.instanceMethod ({ cls := "CordCartModel", name := "filling", desc := "(I)I" } : MethodName)) ∈ zT := zT_of 1522 (by decide +kernel) (by decide +kernel)
theorem zt_1523 : (Cond.selects "CordCartModel" ({ cls := "CordCartModel", name := "filling", desc := "(I)I" } : MethodName) ({ cls := "CordCartModel", name := "filling", desc := "(I)I" } : MethodName)) ∈ zT := zT_of 1523 (by decide +kernel) (by decide +kernel)
theorem zt_1525 : (Cond.methodLink "CordCartLaw" (147 : Nat) ({ cls := "CordCartModel", name := "fill", desc := "(I)I" } : MethodName)) ∈ zT := zT_of 1525 (by decide +kernel) (by decide +kernel)
theorem zt_1526 : (Cond.instanceMethod ({ cls := "CordCartModel", name := "fill", desc := "(I)I" } : MethodName)) ∈ zT := zT_of 1526 (by decide +kernel) (by decide +kernel)
theorem zt_1527 : (Cond.selects "CordCartModel" ({ cls := "CordCartModel", name := "fill", desc := "(I)I" } : MethodName) ({ cls := "CordCartModel", name := "fill", desc := "(I)I" } : MethodName)) ∈ zT := zT_of 1527 (by decide +kernel) (by decide +kernel)
theorem zt_1529 : (Cond.methodLink "CordCartLaw" (151 : Nat) ({ cls := "CordCartModel", name := "slips", desc := "()I" } : MethodName)) ∈ zT := zT_of 1529 (by decide +kernel) (by decide +kernel)
theorem zt_1530 : (Cond.instanceMethod ({ cls := "CordCartModel", name := "slips", desc := "()I" } : MethodName)) ∈ zT := zT_of 1530 (by decide +kernel) (by decide +kernel)
theorem zt_1531 : (Cond.selects "CordCartModel" ({ cls := "CordCartModel", name := "slips", desc := "()I" } : MethodName) ({ cls := "CordCartModel", name := "slips", desc := "()I" } : MethodName)) ∈ zT := zT_of 1531 (by decide +kernel) (by decide +kernel)
theorem zt_1533 : (Cond.methodLink "CordCartModel" (328 : Nat) ({ cls := "CordCartModel", name := "allSlips", desc := "()I" } : MethodName)) ∈ zT := zT_of 1533 (by decide +kernel) (by decide +kernel)
theorem zt_1535 : (Cond.instanceMethod ({ cls := "CordCartModel", name := "allSlips", desc := "()I" } : MethodName)) ∈ zT := zT_of 1535 (by decide +kernel) (by decide +kernel)
theorem zt_1537 : (Cond.methodLink "CordCartModel" (322 : Nat) ({ cls := "CordCartModel", name := "slipsIn", desc := "(I)I" } : MethodName)) ∈ zT := zT_of 1537 (by decide +kernel) (by decide +kernel)
theorem zt_1539 : (Cond.instanceMethod ({ cls := "CordCartModel", name := "slipsIn", desc := "(I)I" } : MethodName)) ∈ zT := zT_of 1539 (by decide +kernel) (by decide +kernel)
theorem zt_1541 : (Cond.methodLink "CordCartModel" (331 : Nat) ({ cls := "CordCartModel", name := "explains", desc := "(II)Z" } : MethodName)) ∈ zT := zT_of 1541 (by decide +kernel) (by decide +kernel)
theorem zt_1543 : (Cond.instanceMethod ({ cls := "CordCartModel", name := "explains", desc := "(II)Z" } : MethodName)) ∈ zT := zT_of 1543 (by decide +kernel) (by decide +kernel)
theorem zt_1545 : (Cond.methodLink "CordCartModel" (325 : Nat) ({ cls := "CordCartModel", name := "spotOf", desc := "(I)I" } : MethodName)) ∈ zT := zT_of 1545 (by decide +kernel) (by decide +kernel)
theorem zt_1547 : (Cond.instanceMethod ({ cls := "CordCartModel", name := "spotOf", desc := "(I)I" } : MethodName)) ∈ zT := zT_of 1547 (by decide +kernel) (by decide +kernel)
theorem zt_1549 : (Cond.methodLink "CordCartLaw" (155 : Nat) ({ cls := "CordCartModel", name := "slip", desc := "(I)I" } : MethodName)) ∈ zT := zT_of 1549 (by decide +kernel) (by decide +kernel)
theorem zt_1550 : (Cond.instanceMethod ({ cls := "CordCartModel", name := "slip", desc := "(I)I" } : MethodName)) ∈ zT := zT_of 1550 (by decide +kernel) (by decide +kernel)
theorem zt_1551 : (Cond.selects "CordCartModel" ({ cls := "CordCartModel", name := "slip", desc := "(I)I" } : MethodName) ({ cls := "CordCartModel", name := "slip", desc := "(I)I" } : MethodName)) ∈ zT := zT_of 1551 (by decide +kernel) (by decide +kernel)
theorem zt_1553 : (Cond.methodLink "CordCartLaw" (159 : Nat) ({ cls := "CordCartModel", name := "pair", desc := "()I" } : MethodName)) ∈ zT := zT_of 1553 (by decide +kernel) (by decide +kernel)
theorem zt_1554 : (Cond.instanceMethod ({ cls := "CordCartModel", name := "pair", desc := "()I" } : MethodName)) ∈ zT := zT_of 1554 (by decide +kernel) (by decide +kernel)
theorem zt_1555 : (Cond.selects "CordCartModel" ({ cls := "CordCartModel", name := "pair", desc := "()I" } : MethodName) ({ cls := "CordCartModel", name := "pair", desc := "()I" } : MethodName)) ∈ zT := zT_of 1555 (by decide +kernel) (by decide +kernel)
theorem zt_1557 : (Cond.methodLink "CordCartLaw" (167 : Nat) ({ cls := "CordCartModel", name := "tape", desc := "(III)I" } : MethodName)) ∈ zT := zT_of 1557 (by decide +kernel) (by decide +kernel)
theorem zt_1558 : (Cond.instanceMethod ({ cls := "CordCartModel", name := "tape", desc := "(III)I" } : MethodName)) ∈ zT := zT_of 1558 (by decide +kernel) (by decide +kernel)
theorem zt_1559 : (Cond.selects "CordCartModel" ({ cls := "CordCartModel", name := "tape", desc := "(III)I" } : MethodName) ({ cls := "CordCartModel", name := "tape", desc := "(III)I" } : MethodName)) ∈ zT := zT_of 1559 (by decide +kernel) (by decide +kernel)
theorem zt_1561 : (Cond.methodLink "CordCartLaw" (171 : Nat) ({ cls := "CordCartModel", name := "keep", desc := "(I)I" } : MethodName)) ∈ zT := zT_of 1561 (by decide +kernel) (by decide +kernel)
theorem zt_1562 : (Cond.instanceMethod ({ cls := "CordCartModel", name := "keep", desc := "(I)I" } : MethodName)) ∈ zT := zT_of 1562 (by decide +kernel) (by decide +kernel)
theorem zt_1563 : (Cond.selects "CordCartModel" ({ cls := "CordCartModel", name := "keep", desc := "(I)I" } : MethodName) ({ cls := "CordCartModel", name := "keep", desc := "(I)I" } : MethodName)) ∈ zT := zT_of 1563 (by decide +kernel) (by decide +kernel)
theorem zt_1565 : (Cond.methodLink "CordCartModel" (334 : Nat) ({ cls := "CordCartModel", name := "all", desc := "()I" } : MethodName)) ∈ zT := zT_of 1565 (by decide +kernel) (by decide +kernel)
theorem zt_1567 : (Cond.instanceMethod ({ cls := "CordCartModel", name := "all", desc := "()I" } : MethodName)) ∈ zT := zT_of 1567 (by decide +kernel) (by decide +kernel)
theorem zt_1569 : (Cond.methodLink "CordCartLaw" (175 : Nat) ({ cls := "CordCartModel", name := "back", desc := "(I)I" } : MethodName)) ∈ zT := zT_of 1569 (by decide +kernel) (by decide +kernel)
theorem zt_1570 : (Cond.instanceMethod ({ cls := "CordCartModel", name := "back", desc := "(I)I" } : MethodName)) ∈ zT := zT_of 1570 (by decide +kernel) (by decide +kernel)
theorem zt_1571 : (Cond.selects "CordCartModel" ({ cls := "CordCartModel", name := "back", desc := "(I)I" } : MethodName) ({ cls := "CordCartModel", name := "back", desc := "(I)I" } : MethodName)) ∈ zT := zT_of 1571 (by decide +kernel) (by decide +kernel)
theorem zt_1573 : (Cond.methodLink "CordCartModel" (337 : Nat) ({ cls := "CordCartModel", name := "lacks", desc := "(I)I" } : MethodName)) ∈ zT := zT_of 1573 (by decide +kernel) (by decide +kernel)
theorem zt_1575 : (Cond.instanceMethod ({ cls := "CordCartModel", name := "lacks", desc := "(I)I" } : MethodName)) ∈ zT := zT_of 1575 (by decide +kernel) (by decide +kernel)
theorem zt_1577 : (Cond.methodLink "CordCartLaw" (179 : Nat) ({ cls := "CordCartModel", name := "toss", desc := "(I)I" } : MethodName)) ∈ zT := zT_of 1577 (by decide +kernel) (by decide +kernel)
theorem zt_1578 : (Cond.instanceMethod ({ cls := "CordCartModel", name := "toss", desc := "(I)I" } : MethodName)) ∈ zT := zT_of 1578 (by decide +kernel) (by decide +kernel)
theorem zt_1579 : (Cond.selects "CordCartModel" ({ cls := "CordCartModel", name := "toss", desc := "(I)I" } : MethodName) ({ cls := "CordCartModel", name := "toss", desc := "(I)I" } : MethodName)) ∈ zT := zT_of 1579 (by decide +kernel) (by decide +kernel)
theorem zt_1581 : (Cond.methodLink "CordCartLaw" (183 : Nat) ({ cls := "CordCartModel", name := "clear", desc := "(I)I" } : MethodName)) ∈ zT := zT_of 1581 (by decide +kernel) (by decide +kernel)
theorem zt_1582 : (Cond.instanceMethod ({ cls := "CordCartModel", name := "clear", desc := "(I)I" } : MethodName)) ∈ zT := zT_of 1582 (by decide +kernel) (by decide +kernel)
theorem zt_1583 : (Cond.selects "CordCartModel" ({ cls := "CordCartModel", name := "clear", desc := "(I)I" } : MethodName) ({ cls := "CordCartModel", name := "clear", desc := "(I)I" } : MethodName)) ∈ zT := zT_of 1583 (by decide +kernel) (by decide +kernel)
theorem zt_1585 : (Cond.methodLink "CordCartLaw" (190 : Nat) ({ cls := "CordCartModel", name := "put", desc := "(IIJ)I" } : MethodName)) ∈ zT := zT_of 1585 (by decide +kernel) (by decide +kernel)
theorem zt_1586 : (Cond.instanceMethod ({ cls := "CordCartModel", name := "put", desc := "(IIJ)I" } : MethodName)) ∈ zT := zT_of 1586 (by decide +kernel) (by decide +kernel)
theorem zt_1587 : (Cond.selects "CordCartModel" ({ cls := "CordCartModel", name := "put", desc := "(IIJ)I" } : MethodName) ({ cls := "CordCartModel", name := "put", desc := "(IIJ)I" } : MethodName)) ∈ zT := zT_of 1587 (by decide +kernel) (by decide +kernel)
theorem zt_1589 : (Cond.methodLink "CordCartModel" (340 : Nat) ({ cls := "CordCartModel", name := "narrowed", desc := "(IJ)J" } : MethodName)) ∈ zT := zT_of 1589 (by decide +kernel) (by decide +kernel)
theorem zt_1590 : (Cond.static ({ cls := "CordCartModel", name := "narrowed", desc := "(IJ)J" } : MethodName)) ∈ zT := zT_of 1590 (by decide +kernel) (by decide +kernel)
theorem zt_1592 : (Cond.methodLink "CordCartLaw" (193 : Nat) ({ cls := "CordCartModel", name := "at", desc := "(II)J" } : MethodName)) ∈ zT := zT_of 1592 (by decide +kernel) (by decide +kernel)
theorem zt_1593 : (Cond.instanceMethod ({ cls := "CordCartModel", name := "at", desc := "(II)J" } : MethodName)) ∈ zT := zT_of 1593 (by decide +kernel) (by decide +kernel)
theorem zt_1594 : (Cond.selects "CordCartModel" ({ cls := "CordCartModel", name := "at", desc := "(II)J" } : MethodName) ({ cls := "CordCartModel", name := "at", desc := "(II)J" } : MethodName)) ∈ zT := zT_of 1594 (by decide +kernel) (by decide +kernel)
theorem zt_1596 : (Cond.methodLink "CordCartLaw" (197 : Nat) ({ cls := "CordCartModel", name := "copy", desc := "(IIIII)I" } : MethodName)) ∈ zT := zT_of 1596 (by decide +kernel) (by decide +kernel)
theorem zt_1597 : (Cond.instanceMethod ({ cls := "CordCartModel", name := "copy", desc := "(IIIII)I" } : MethodName)) ∈ zT := zT_of 1597 (by decide +kernel) (by decide +kernel)
theorem zt_1598 : (Cond.selects "CordCartModel" ({ cls := "CordCartModel", name := "copy", desc := "(IIIII)I" } : MethodName) ({ cls := "CordCartModel", name := "copy", desc := "(IIIII)I" } : MethodName)) ∈ zT := zT_of 1598 (by decide +kernel) (by decide +kernel)
theorem zt_1600 : (Cond.methodLink "CordCartLaw" (201 : Nat) ({ cls := "CordCartModel", name := "count", desc := "(I)I" } : MethodName)) ∈ zT := zT_of 1600 (by decide +kernel) (by decide +kernel)
theorem zt_1601 : (Cond.instanceMethod ({ cls := "CordCartModel", name := "count", desc := "(I)I" } : MethodName)) ∈ zT := zT_of 1601 (by decide +kernel) (by decide +kernel)
theorem zt_1602 : (Cond.selects "CordCartModel" ({ cls := "CordCartModel", name := "count", desc := "(I)I" } : MethodName) ({ cls := "CordCartModel", name := "count", desc := "(I)I" } : MethodName)) ∈ zT := zT_of 1602 (by decide +kernel) (by decide +kernel)
theorem zt_1604 : (Cond.constantLong "CordCartLaw" (184 : Nat) (4294967295 : Int64)) ∈ zT := zT_of 1604 (by decide +kernel) (by decide +kernel)
theorem zs_19 : Cond.selects "CordCart$Finds" ⟨"CordCart$Finds", "setSpot", "(IIII)V"⟩ ⟨"CordCart$Finds", "setSpot", "(IIII)V"⟩ ∈ zT := zT_sel (y := ⟨"CordCart$Finds", "setSpot", "(IIII)V"⟩) 19 (n := 12) rfl (by decide +kernel)
theorem zs_20 : Cond.selects "CordCart$Finds" ⟨"CordCart$Finds", "comesTo", "(I)Z"⟩ ⟨"CordCart$Finds", "comesTo", "(I)Z"⟩ ∈ zT := zT_sel (y := ⟨"CordCart$Finds", "comesTo", "(I)Z"⟩) 20 (n := 12) rfl (by decide +kernel)
theorem zs_21 : Cond.selects "CordCart$Finds" ⟨"CordCart$Finds", "listGaps", "()V"⟩ ⟨"CordCart$Finds", "listGaps", "()V"⟩ ∈ zT := zT_sel (y := ⟨"CordCart$Finds", "listGaps", "()V"⟩) 21 (n := 12) rfl (by decide +kernel)
theorem zs_22 : Cond.selects "CordCart$Finds" ⟨"CordCart$Finds", "agrees", "()Z"⟩ ⟨"CordCart$Finds", "agrees", "()Z"⟩ ∈ zT := zT_sel (y := ⟨"CordCart$Finds", "agrees", "()Z"⟩) 22 (n := 12) rfl (by decide +kernel)
theorem zs_23 : Cond.selects "CordCart$Finds" ⟨"CordCart$Finds", "addFound", "(I)V"⟩ ⟨"CordCart$Finds", "addFound", "(I)V"⟩ ∈ zT := zT_sel (y := ⟨"CordCart$Finds", "addFound", "(I)V"⟩) 23 (n := 12) rfl (by decide +kernel)
theorem zs_24 : Cond.selects "CordCart$Finds" ⟨"CordCart$Finds", "listSlips", "()V"⟩ ⟨"CordCart$Finds", "listSlips", "()V"⟩ ∈ zT := zT_sel (y := ⟨"CordCart$Finds", "listSlips", "()V"⟩) 24 (n := 12) rfl (by decide +kernel)
theorem zs_25 : Cond.selects "CordCart$Finds" ⟨"CordCart$Finds", "giveSlip", "(I)V"⟩ ⟨"CordCart$Finds", "giveSlip", "(I)V"⟩ ∈ zT := zT_sel (y := ⟨"CordCart$Finds", "giveSlip", "(I)V"⟩) 25 (n := 12) rfl (by decide +kernel)
theorem zs_26 : Cond.selects "CordCart$Finds" ⟨"CordCart$Finds", "takeSlipBack", "(I)V"⟩ ⟨"CordCart$Finds", "takeSlipBack", "(I)V"⟩ ∈ zT := zT_sel (y := ⟨"CordCart$Finds", "takeSlipBack", "(I)V"⟩) 26 (n := 12) rfl (by decide +kernel)
theorem zs_10 : Cond.selects "CordCart$Floor" ⟨"CordCart$Floor", "reach", "(IILCordCart$Line;)V"⟩ ⟨"CordCart$Floor", "reach", "(IILCordCart$Line;)V"⟩ ∈ zT := zT_sel (y := ⟨"CordCart$Floor", "reach", "(IILCordCart$Line;)V"⟩) 10 (n := 6) rfl (by decide +kernel)
theorem zs_11 : Cond.selects "CordCart$Floor" ⟨"CordCart$Floor", "takeNearest", "()I"⟩ ⟨"CordCart$Floor", "takeNearest", "()I"⟩ ∈ zT := zT_sel (y := ⟨"CordCart$Floor", "takeNearest", "()I"⟩) 11 (n := 6) rfl (by decide +kernel)
theorem zs_12 : Cond.selects "CordCart$Floor" ⟨"CordCart$Floor", "spread", "(I)V"⟩ ⟨"CordCart$Floor", "spread", "(I)V"⟩ ∈ zT := zT_sel (y := ⟨"CordCart$Floor", "spread", "(I)V"⟩) 12 (n := 6) rfl (by decide +kernel)
theorem zs_15 : Cond.selects "CordCart$Floor" ⟨"CordCart$Floor", "isNext", "(IIII)Z"⟩ ⟨"CordCart$Floor", "isNext", "(IIII)Z"⟩ ∈ zT := zT_sel (y := ⟨"CordCart$Floor", "isNext", "(IIII)Z"⟩) 15 (n := 6) rfl (by decide +kernel)
theorem zs_5 : Cond.selects "CordCart$Pose" ⟨"CordCart$Pose", "unitsToChange", "(II)I"⟩ ⟨"CordCart$Pose", "unitsToChange", "(II)I"⟩ ∈ zT := zT_sel (y := ⟨"CordCart$Pose", "unitsToChange", "(II)I"⟩) 5 (n := 5) rfl (by decide +kernel)
theorem zs_6 : Cond.selects "CordCart$Pose" ⟨"CordCart$Pose", "changeDirection", "(I)V"⟩ ⟨"CordCart$Pose", "changeDirection", "(I)V"⟩ ∈ zT := zT_sel (y := ⟨"CordCart$Pose", "changeDirection", "(I)V"⟩) 6 (n := 5) rfl (by decide +kernel)
theorem zs_2 : Cond.selects "CordCart$Run" ⟨"CordCart$Run", "goToSegment", "(II)V"⟩ ⟨"CordCart$Run", "goToSegment", "(II)V"⟩ ∈ zT := zT_sel (y := ⟨"CordCart$Run", "goToSegment", "(II)V"⟩) 2 (n := 9) rfl (by decide +kernel)
theorem zs_4 : Cond.selects "CordCart$Run" ⟨"CordCart$Run", "turnOf", "(I)I"⟩ ⟨"CordCart$Run", "turnOf", "(I)I"⟩ ∈ zT := zT_sel (y := ⟨"CordCart$Run", "turnOf", "(I)I"⟩) 4 (n := 9) rfl (by decide +kernel)
theorem zs_7 : Cond.selects "CordCart$Run" ⟨"CordCart$Run", "give", "(II)V"⟩ ⟨"CordCart$Run", "give", "(II)V"⟩ ∈ zT := zT_sel (y := ⟨"CordCart$Run", "give", "(II)V"⟩) 7 (n := 9) rfl (by decide +kernel)
theorem zs_3 : Cond.selects "CordCart$Show" ⟨"CordCart$Show", "playUnit", "(LCordCart$Run;LCordCart$Floor;Z)V"⟩ ⟨"CordCart$Show", "playUnit", "(LCordCart$Run;LCordCart$Floor;Z)V"⟩ ∈ zT := zT_sel (y := ⟨"CordCart$Show", "playUnit", "(LCordCart$Run;LCordCart$Floor;Z)V"⟩) 3 (n := 8) rfl (by decide +kernel)
theorem zs_8 : Cond.selects "CordCart$Show" ⟨"CordCart$Show", "noteAct", "(LCordCart$Run;)V"⟩ ⟨"CordCart$Show", "noteAct", "(LCordCart$Run;)V"⟩ ∈ zT := zT_sel (y := ⟨"CordCart$Show", "noteAct", "(LCordCart$Run;)V"⟩) 8 (n := 8) rfl (by decide +kernel)
theorem zs_9 : Cond.selects "CordCart$Show" ⟨"CordCart$Show", "slipOn", "(LCordCart$Run;I)V"⟩ ⟨"CordCart$Show", "slipOn", "(LCordCart$Run;I)V"⟩ ∈ zT := zT_sel (y := ⟨"CordCart$Show", "slipOn", "(LCordCart$Run;I)V"⟩) 9 (n := 8) rfl (by decide +kernel)
theorem zs_14 : Cond.selects "CordCart$Wish" ⟨"CordCart$Wish", "goTo", "(II)Z"⟩ ⟨"CordCart$Wish", "goTo", "(II)Z"⟩ ∈ zT := zT_sel (y := ⟨"CordCart$Wish", "goTo", "(II)Z"⟩) 14 (n := 10) rfl (by decide +kernel)
theorem zs_17 : Cond.selects "CordCart$Wish" ⟨"CordCart$Wish", "windUnits", "(IIII)V"⟩ ⟨"CordCart$Wish", "windUnits", "(IIII)V"⟩ ∈ zT := zT_sel (y := ⟨"CordCart$Wish", "windUnits", "(IIII)V"⟩) 17 (n := 10) rfl (by decide +kernel)
theorem zs_18 : Cond.selects "CordCart$Wish" ⟨"CordCart$Wish", "faceTo", "(I)V"⟩ ⟨"CordCart$Wish", "faceTo", "(I)V"⟩ ∈ zT := zT_sel (y := ⟨"CordCart$Wish", "faceTo", "(I)V"⟩) 18 (n := 10) rfl (by decide +kernel)
theorem zs_16 : Cond.selects "CordCart$Wish" ⟨"CordCart$Wish", "move", "(I)V"⟩ ⟨"CordCart$Wish", "move", "(I)V"⟩ ∈ zT := zT_sel (y := ⟨"CordCart$Wish", "move", "(I)V"⟩) 16 (n := 10) rfl (by decide +kernel)
theorem zs_0 : Cond.selects "CordCart" ⟨"CordCart", "reset", "()V"⟩ ⟨"CordCart", "reset", "()V"⟩ ∈ zT := zT_sel (y := ⟨"CordCart", "reset", "()V"⟩) 0 (n := 10) rfl (by decide +kernel)
theorem zs_1 : Cond.selects "CordCart" ⟨"CordCart", "refusedByHost", "(I)I"⟩ ⟨"CordCart", "refusedByHost", "(I)I"⟩ ∈ zT := zT_sel (y := ⟨"CordCart", "refusedByHost", "(I)I"⟩) 1 (n := 10) rfl (by decide +kernel)
theorem zs_13 : Cond.selects "CordCart" ⟨"CordCart", "makeWindings", "()I"⟩ ⟨"CordCart", "makeWindings", "()I"⟩ ∈ zT := zT_sel (y := ⟨"CordCart", "makeWindings", "()I"⟩) 13 (n := 10) rfl (by decide +kernel)
theorem zs_27 : Cond.selects "CordCart" ⟨"CordCart", "refusalOfCart", "(I)I"⟩ ⟨"CordCart", "refusalOfCart", "(I)I"⟩ ∈ zT := zT_sel (y := ⟨"CordCart", "refusalOfCart", "(I)I"⟩) 27 (n := 10) rfl (by decide +kernel)
theorem zs_29 : Cond.selects "CordCartModel" ⟨"CordCartModel", "pegAt", "(I)I"⟩ ⟨"CordCartModel", "pegAt", "(I)I"⟩ ∈ zT := zT_sel (y := ⟨"CordCartModel", "pegAt", "(I)I"⟩) 29 (n := 67) rfl (by decide +kernel)
theorem zs_30 : Cond.selects "CordCartModel" ⟨"CordCartModel", "refuse", "(I)I"⟩ ⟨"CordCartModel", "refuse", "(I)I"⟩ ∈ zT := zT_sel (y := ⟨"CordCartModel", "refuse", "(I)I"⟩) 30 (n := 67) rfl (by decide +kernel)
theorem zs_35 : Cond.selects "CordCartModel" ⟨"CordCartModel", "slipsAt", "(II)V"⟩ ⟨"CordCartModel", "slipsAt", "(II)V"⟩ ∈ zT := zT_sel (y := ⟨"CordCartModel", "slipsAt", "(II)V"⟩) 35 (n := 67) rfl (by decide +kernel)
theorem zs_31 : Cond.selects "CordCartModel" ⟨"CordCartModel", "unknowns", "()I"⟩ ⟨"CordCartModel", "unknowns", "()I"⟩ ∈ zT := zT_sel (y := ⟨"CordCartModel", "unknowns", "()I"⟩) 31 (n := 67) rfl (by decide +kernel)
theorem zs_32 : Cond.selects "CordCartModel" ⟨"CordCartModel", "sets", "()V"⟩ ⟨"CordCartModel", "sets", "()V"⟩ ∈ zT := zT_sel (y := ⟨"CordCartModel", "sets", "()V"⟩) 32 (n := 67) rfl (by decide +kernel)
theorem zs_33 : Cond.selects "CordCartModel" ⟨"CordCartModel", "isOut", "()Z"⟩ ⟨"CordCartModel", "isOut", "()Z"⟩ ∈ zT := zT_sel (y := ⟨"CordCartModel", "isOut", "()Z"⟩) 33 (n := 67) rfl (by decide +kernel)
theorem zs_34 : Cond.selects "CordCartModel" ⟨"CordCartModel", "falls", "(Z)V"⟩ ⟨"CordCartModel", "falls", "(Z)V"⟩ ∈ zT := zT_sel (y := ⟨"CordCartModel", "falls", "(Z)V"⟩) 34 (n := 67) rfl (by decide +kernel)
theorem zs_36 : Cond.selects "CordCartModel" ⟨"CordCartModel", "notes", "()V"⟩ ⟨"CordCartModel", "notes", "()V"⟩ ∈ zT := zT_sel (y := ⟨"CordCartModel", "notes", "()V"⟩) 36 (n := 67) rfl (by decide +kernel)
theorem zs_37 : Cond.selects "CordCartModel" ⟨"CordCartModel", "isBad", "()Z"⟩ ⟨"CordCartModel", "isBad", "()Z"⟩ ∈ zT := zT_sel (y := ⟨"CordCartModel", "isBad", "()Z"⟩) 37 (n := 67) rfl (by decide +kernel)
theorem zs_38 : Cond.selects "CordCartModel" ⟨"CordCartModel", "goes", "(I)V"⟩ ⟨"CordCartModel", "goes", "(I)V"⟩ ∈ zT := zT_sel (y := ⟨"CordCartModel", "goes", "(I)V"⟩) 38 (n := 67) rfl (by decide +kernel)
theorem zs_40 : Cond.selects "CordCartModel" ⟨"CordCartModel", "isFree", "(II)Z"⟩ ⟨"CordCartModel", "isFree", "(II)Z"⟩ ∈ zT := zT_sel (y := ⟨"CordCartModel", "isFree", "(II)Z"⟩) 40 (n := 67) rfl (by decide +kernel)
theorem zs_41 : Cond.selects "CordCartModel" ⟨"CordCartModel", "moved", "(II)I"⟩ ⟨"CordCartModel", "moved", "(II)I"⟩ ∈ zT := zT_sel (y := ⟨"CordCartModel", "moved", "(II)I"⟩) 41 (n := 67) rfl (by decide +kernel)
theorem zs_42 : Cond.selects "CordCartModel" ⟨"CordCartModel", "price", "(I)I"⟩ ⟨"CordCartModel", "price", "(I)I"⟩ ∈ zT := zT_sel (y := ⟨"CordCartModel", "price", "(I)I"⟩) 42 (n := 67) rfl (by decide +kernel)
theorem zs_39 : Cond.selects "CordCartModel" ⟨"CordCartModel", "reckons", "(II)V"⟩ ⟨"CordCartModel", "reckons", "(II)V"⟩ ∈ zT := zT_sel (y := ⟨"CordCartModel", "reckons", "(II)V"⟩) 39 (n := 67) rfl (by decide +kernel)
theorem zs_45 : Cond.selects "CordCartModel" ⟨"CordCartModel", "winds", "(III)V"⟩ ⟨"CordCartModel", "winds", "(III)V"⟩ ∈ zT := zT_sel (y := ⟨"CordCartModel", "winds", "(III)V"⟩) 45 (n := 67) rfl (by decide +kernel)
theorem zs_44 : Cond.selects "CordCartModel" ⟨"CordCartModel", "windsAll", "(IIII)V"⟩ ⟨"CordCartModel", "windsAll", "(IIII)V"⟩ ∈ zT := zT_sel (y := ⟨"CordCartModel", "windsAll", "(IIII)V"⟩) 44 (n := 67) rfl (by decide +kernel)
theorem zs_46 : Cond.selects "CordCartModel" ⟨"CordCartModel", "turnsTo", "(Z)V"⟩ ⟨"CordCartModel", "turnsTo", "(Z)V"⟩ ∈ zT := zT_sel (y := ⟨"CordCartModel", "turnsTo", "(Z)V"⟩) 46 (n := 67) rfl (by decide +kernel)
theorem zs_43 : Cond.selects "CordCartModel" ⟨"CordCartModel", "makes", "()I"⟩ ⟨"CordCartModel", "makes", "()I"⟩ ∈ zT := zT_sel (y := ⟨"CordCartModel", "makes", "()I"⟩) 43 (n := 67) rfl (by decide +kernel)
theorem zs_47 : Cond.selects "CordCartModel" ⟨"CordCartModel", "misses", "(Z)I"⟩ ⟨"CordCartModel", "misses", "(Z)I"⟩ ∈ zT := zT_sel (y := ⟨"CordCartModel", "misses", "(Z)I"⟩) 47 (n := 67) rfl (by decide +kernel)
theorem zs_49 : Cond.selects "CordCartModel" ⟨"CordCartModel", "fills", "([II)V"⟩ ⟨"CordCartModel", "fills", "([II)V"⟩ ∈ zT := zT_sel (y := ⟨"CordCartModel", "fills", "([II)V"⟩) 49 (n := 67) rfl (by decide +kernel)
theorem zs_48 : Cond.selects "CordCartModel" ⟨"CordCartModel", "agrees", "(I)Z"⟩ ⟨"CordCartModel", "agrees", "(I)Z"⟩ ∈ zT := zT_sel (y := ⟨"CordCartModel", "agrees", "(I)Z"⟩) 48 (n := 67) rfl (by decide +kernel)
theorem zs_51 : Cond.selects "CordCartModel" ⟨"CordCartModel", "slipsIn", "(I)I"⟩ ⟨"CordCartModel", "slipsIn", "(I)I"⟩ ∈ zT := zT_sel (y := ⟨"CordCartModel", "slipsIn", "(I)I"⟩) 51 (n := 67) rfl (by decide +kernel)
theorem zs_53 : Cond.selects "CordCartModel" ⟨"CordCartModel", "spotOf", "(I)I"⟩ ⟨"CordCartModel", "spotOf", "(I)I"⟩ ∈ zT := zT_sel (y := ⟨"CordCartModel", "spotOf", "(I)I"⟩) 53 (n := 67) rfl (by decide +kernel)
theorem zs_50 : Cond.selects "CordCartModel" ⟨"CordCartModel", "allSlips", "()I"⟩ ⟨"CordCartModel", "allSlips", "()I"⟩ ∈ zT := zT_sel (y := ⟨"CordCartModel", "allSlips", "()I"⟩) 50 (n := 67) rfl (by decide +kernel)
theorem zs_52 : Cond.selects "CordCartModel" ⟨"CordCartModel", "explains", "(II)Z"⟩ ⟨"CordCartModel", "explains", "(II)Z"⟩ ∈ zT := zT_sel (y := ⟨"CordCartModel", "explains", "(II)Z"⟩) 52 (n := 67) rfl (by decide +kernel)
theorem zs_54 : Cond.selects "CordCartModel" ⟨"CordCartModel", "all", "()I"⟩ ⟨"CordCartModel", "all", "()I"⟩ ∈ zT := zT_sel (y := ⟨"CordCartModel", "all", "()I"⟩) 54 (n := 67) rfl (by decide +kernel)
theorem zs_55 : Cond.selects "CordCartModel" ⟨"CordCartModel", "lacks", "(I)I"⟩ ⟨"CordCartModel", "lacks", "(I)I"⟩ ∈ zT := zT_sel (y := ⟨"CordCartModel", "lacks", "(I)I"⟩) 55 (n := 67) rfl (by decide +kernel)
theorem zn_39 : (Cond.methodLinkNest "CordCart$Cart" (21 : Nat) ({ cls := "CordCart$Cord", name := "<init>", desc := "()V" } : MethodName) "CordCart") ∈ zNw := zNw_of 0 (by decide +kernel)
theorem zn_485 : (Cond.methodLinkNest "CordCart$Cart" (48 : Nat) ({ cls := "CordCart", name := "isIn", desc := "(III)Z" } : MethodName) "CordCart") ∈ zNw := zNw_of 10 (by decide +kernel)
theorem zn_123 : (Cond.methodLinkNest "CordCart$Floor" (21 : Nat) ({ cls := "CordCart$Line", name := "<init>", desc := "()V" } : MethodName) "CordCart") ∈ zNw := zNw_of 3 (by decide +kernel)
theorem zn_509 : (Cond.methodLinkNest "CordCart$Floor" (33 : Nat) ({ cls := "CordCart", name := "isCell", desc := "(II)Z" } : MethodName) "CordCart") ∈ zNw := zNw_of 11 (by decide +kernel)
theorem zn_718 : (Cond.fieldLinkNest "CordCart$Floor" (69 : Nat) "CordCart" "AHEAD_X" "[I" "CordCart") ∈ zNw := zNw_of 14 (by decide +kernel)
theorem zn_720 : (Cond.fieldLinkNest "CordCart$Floor" (72 : Nat) "CordCart" "AHEAD_Y" "[I" "CordCart") ∈ zNw := zNw_of 15 (by decide +kernel)
theorem zn_616 : (Cond.fieldLinkNest "CordCart$Pose" (36 : Nat) "CordCart" "HALF_X" "[I" "CordCart") ∈ zNw := zNw_of 12 (by decide +kernel)
theorem zn_618 : (Cond.fieldLinkNest "CordCart$Pose" (40 : Nat) "CordCart" "HALF_Y" "[I" "CordCart") ∈ zNw := zNw_of 13 (by decide +kernel)
theorem zn_189 : (Cond.methodLinkNest "CordCart$Run" (11 : Nat) ({ cls := "CordCart$Pose", name := "<init>", desc := "()V" } : MethodName) "CordCart") ∈ zNw := zNw_of 5 (by decide +kernel)
theorem zn_238 : (Cond.methodLinkNest "CordCart$Show" (11 : Nat) ({ cls := "CordCart$Pose", name := "<init>", desc := "()V" } : MethodName) "CordCart") ∈ zNw := zNw_of 7 (by decide +kernel)
theorem zn_281 : (Cond.methodLinkNest "CordCart$Wish" (26 : Nat) ({ cls := "CordCart$Cord", name := "<init>", desc := "()V" } : MethodName) "CordCart") ∈ zNw := zNw_of 8 (by decide +kernel)
theorem zn_765 : (Cond.fieldLinkNest "CordCart$Wish" (88 : Nat) "CordCart" "AHEAD_X" "[I" "CordCart") ∈ zNw := zNw_of 16 (by decide +kernel)
theorem zn_766 : (Cond.fieldLinkNest "CordCart$Wish" (92 : Nat) "CordCart" "AHEAD_Y" "[I" "CordCart") ∈ zNw := zNw_of 17 (by decide +kernel)
theorem zn_91 : (Cond.methodLinkNest "CordCart" (18 : Nat) ({ cls := "CordCart$Pose", name := "<init>", desc := "()V" } : MethodName) "CordCart") ∈ zNw := zNw_of 1 (by decide +kernel)
theorem zn_117 : (Cond.methodLinkNest "CordCart" (25 : Nat) ({ cls := "CordCart$Floor", name := "<init>", desc := "()V" } : MethodName) "CordCart") ∈ zNw := zNw_of 2 (by decide +kernel)
theorem zn_160 : (Cond.methodLinkNest "CordCart" (32 : Nat) ({ cls := "CordCart$Weight", name := "<init>", desc := "()V" } : MethodName) "CordCart") ∈ zNw := zNw_of 4 (by decide +kernel)
theorem zn_233 : (Cond.methodLinkNest "CordCart" (48 : Nat) ({ cls := "CordCart$Show", name := "<init>", desc := "()V" } : MethodName) "CordCart") ∈ zNw := zNw_of 6 (by decide +kernel)
theorem zn_365 : (Cond.methodLinkNest "CordCart" (77 : Nat) ({ cls := "CordCart$Tape", name := "<init>", desc := "()V" } : MethodName) "CordCart") ∈ zNw := zNw_of 9 (by decide +kernel)
theorem zn_939 : (Cond.castable "java/lang/IllegalStateException" "java/lang/IllegalStateException") ∈ zNw := zNw_of 18 (by decide +kernel)
theorem zn_1043 : (Cond.castable "java/lang/IllegalArgumentException" "java/lang/IllegalArgumentException") ∈ zNw := zNw_of 25 (by decide +kernel)
def zCalA (c n : Nat) (w : Bool) : Prop := zMOk c ∧ zcw c ∈ zT ∧ (zhh c).isEmpty = w ∧ Cond.initialized (zy c).cls ∈ zT ∧ (zy c).cls ≠ "java/lang/invoke/MethodHandle" ∧ (zy c).cls ≠ "java/lang/invoke/VarHandle" ∧ (parseMethodDescriptor (zy c).desc).map (fun d => d.parameters.length) = some n
theorem zCal_mk {k c n : Nat} (h : zCalA c n true) (h2 : zlv c + 1 ≤ zlv k ∧ 8 + (zml c + 11) + zlc c ≤ zlc k) : zCal k c n := ⟨h.1, h.2.1, List.isEmpty_iff.mp h.2.2.1, h.2.2.2.1, h.2.2.2.2.1, h.2.2.2.2.2.1, h.2.2.2.2.2.2, h2.1, h2.2⟩
theorem zCalW_mk {k c n : Nat} (h : zCalA c n false) (h2 : zlv c + 1 ≤ zlv k ∧ 8 + (zml c + 11) + zlc c ≤ zlc k) : zCalW k c n := ⟨h.1, h.2.1, (fun z => by have := h.2.2.1; rw [z] at this; cases this), h.2.2.2.1, h.2.2.2.2.1, h.2.2.2.2.2.1, h.2.2.2.2.2.2, h2.1, h2.2⟩
theorem zt_34 : (Cond.code ({ cls := "CordCart$Cart", name := "<init>", desc := "()V" } : MethodName) prog_2_method_1_code (2 : Nat) (Option.none : Option FieldType)) ∈ zT := zT_of 34 (by decide +kernel) (by decide +kernel)
theorem zcc_0 : zCalA 0 0 true := ⟨⟨by decide +kernel, rfl, rfl⟩, zt_34, rfl, zt_2, by decide +kernel, by decide +kernel, by decide +kernel⟩
theorem zt_396 : (Cond.code ({ cls := "CordCart$Cart", name := "strip", desc := "()V" } : MethodName) prog_2_method_2_code (2 : Nat) (Option.none : Option FieldType)) ∈ zT := zT_of 396 (by decide +kernel) (by decide +kernel)
theorem zcc_1 : zCalA 1 0 true := ⟨⟨by decide +kernel, rfl, rfl⟩, zt_396, rfl, zt_2, by decide +kernel, by decide +kernel, by decide +kernel⟩
theorem zt_912 : (Cond.code ({ cls := "CordCart$Cart", name := "become", desc := "(LCordCart$Cart;)V" } : MethodName) prog_2_method_3_code (3 : Nat) (Option.none : Option FieldType)) ∈ zT := zT_of 912 (by decide +kernel) (by decide +kernel)
theorem zcc_2 : zCalA 2 1 true := ⟨⟨by decide +kernel, rfl, rfl⟩, zt_912, rfl, zt_2, by decide +kernel, by decide +kernel, by decide +kernel⟩
theorem zt_484 : (Cond.code ({ cls := "CordCart$Cart", name := "actAt", desc := "(I)I" } : MethodName) prog_2_method_4_code (2 : Nat) (Option.some FieldType.int)) ∈ zT := zT_of 484 (by decide +kernel) (by decide +kernel)
theorem zcc_3 : zCalA 3 1 true := ⟨⟨by decide +kernel, rfl, rfl⟩, zt_484, rfl, zt_2, by decide +kernel, by decide +kernel, by decide +kernel⟩
theorem zt_489 : (Cond.code ({ cls := "CordCart$Cart", name := "setAct", desc := "(II)V" } : MethodName) prog_2_method_5_code (4 : Nat) (Option.none : Option FieldType)) ∈ zT := zT_of 489 (by decide +kernel) (by decide +kernel)
theorem zcc_4 : zCalA 4 2 true := ⟨⟨by decide +kernel, rfl, rfl⟩, zt_489, rfl, zt_2, by decide +kernel, by decide +kernel, by decide +kernel⟩
theorem zt_918 : (Cond.code ({ cls := "CordCart$Cart", name := "segments", desc := "()I" } : MethodName) prog_2_method_6_code (3 : Nat) (Option.some FieldType.int)) ∈ zT := zT_of 918 (by decide +kernel) (by decide +kernel)
theorem zcc_5 : zCalA 5 0 true := ⟨⟨by decide +kernel, rfl, rfl⟩, zt_918, rfl, zt_2, by decide +kernel, by decide +kernel, by decide +kernel⟩
theorem zt_555 : (Cond.code ({ cls := "CordCart$Cart", name := "gaps", desc := "()I" } : MethodName) prog_2_method_7_code (3 : Nat) (Option.some FieldType.int)) ∈ zT := zT_of 555 (by decide +kernel) (by decide +kernel)
theorem zcc_6 : zCalA 6 0 true := ⟨⟨by decide +kernel, rfl, rfl⟩, zt_555, rfl, zt_2, by decide +kernel, by decide +kernel, by decide +kernel⟩
theorem zt_935 : (Cond.code ({ cls := "CordCart$Cart", name := "throwFailure", desc := "()V" } : MethodName) prog_2_method_8_code (1 : Nat) (Option.none : Option FieldType)) ∈ zT := zT_of 935 (by decide +kernel) (by decide +kernel)
theorem zcc_7 : zCalA 7 0 true := ⟨⟨by decide +kernel, rfl, rfl⟩, zt_935, rfl, zt_2, by decide +kernel, by decide +kernel, by decide +kernel⟩
theorem zt_41 : (Cond.code ({ cls := "CordCart$Cord", name := "<init>", desc := "()V" } : MethodName) prog_3_method_1_code (1 : Nat) (Option.none : Option FieldType)) ∈ zT := zT_of 41 (by decide +kernel) (by decide +kernel)
theorem zcc_8 : zCalA 8 0 true := ⟨⟨by decide +kernel, rfl, rfl⟩, zt_41, rfl, zt_3, by decide +kernel, by decide +kernel, by decide +kernel⟩
theorem zt_472 : (Cond.code ({ cls := "CordCart$Cord", name := "has", desc := "(I)Z" } : MethodName) prog_3_method_2_code (2 : Nat) (Option.some FieldType.boolean)) ∈ zT := zT_of 472 (by decide +kernel) (by decide +kernel)
theorem zcc_9 : zCalA 9 1 true := ⟨⟨by decide +kernel, rfl, rfl⟩, zt_472, rfl, zt_3, by decide +kernel, by decide +kernel, by decide +kernel⟩
theorem zt_460 : (Cond.code ({ cls := "CordCart$Cord", name := "add", desc := "(III)V" } : MethodName) prog_3_method_3_code (4 : Nat) (Option.none : Option FieldType)) ∈ zT := zT_of 460 (by decide +kernel) (by decide +kernel)
theorem zcc_10 : zCalA 10 3 true := ⟨⟨by decide +kernel, rfl, rfl⟩, zt_460, rfl, zt_3, by decide +kernel, by decide +kernel, by decide +kernel⟩
theorem zt_762 : (Cond.code ({ cls := "CordCart$Cord", name := "addUnits", desc := "(II)Z" } : MethodName) prog_3_method_4_code (6 : Nat) (Option.some FieldType.boolean)) ∈ zT := zT_of 762 (by decide +kernel) (by decide +kernel)
theorem zcc_11 : zCalA 11 2 true := ⟨⟨by decide +kernel, rfl, rfl⟩, zt_762, rfl, zt_3, by decide +kernel, by decide +kernel, by decide +kernel⟩
theorem zt_547 : (Cond.code ({ cls := "CordCart$Cord", name := "units", desc := "()I" } : MethodName) prog_3_method_5_code (3 : Nat) (Option.some FieldType.int)) ∈ zT := zT_of 547 (by decide +kernel) (by decide +kernel)
theorem zcc_12 : zCalA 12 0 true := ⟨⟨by decide +kernel, rfl, rfl⟩, zt_547, rfl, zt_3, by decide +kernel, by decide +kernel, by decide +kernel⟩
theorem zt_559 : (Cond.code ({ cls := "CordCart$Cord", name := "gaps", desc := "()I" } : MethodName) prog_3_method_6_code (3 : Nat) (Option.some FieldType.int)) ∈ zT := zT_of 559 (by decide +kernel) (by decide +kernel)
theorem zcc_13 : zCalA 13 0 true := ⟨⟨by decide +kernel, rfl, rfl⟩, zt_559, rfl, zt_3, by decide +kernel, by decide +kernel, by decide +kernel⟩
theorem zt_774 : (Cond.code ({ cls := "CordCart$Cord", name := "become", desc := "(LCordCart$Cord;)V" } : MethodName) prog_3_method_7_code (3 : Nat) (Option.none : Option FieldType)) ∈ zT := zT_of 774 (by decide +kernel) (by decide +kernel)
theorem zcc_14 : zCalA 14 1 true := ⟨⟨by decide +kernel, rfl, rfl⟩, zt_774, rfl, zt_3, by decide +kernel, by decide +kernel, by decide +kernel⟩
theorem zt_893 : (Cond.code ({ cls := "CordCart$Cord", name := "isLike", desc := "(LCordCart$Cord;)Z" } : MethodName) prog_3_method_8_code (3 : Nat) (Option.some FieldType.boolean)) ∈ zT := zT_of 893 (by decide +kernel) (by decide +kernel)
theorem zcc_15 : zCalA 15 1 true := ⟨⟨by decide +kernel, rfl, rfl⟩, zt_893, rfl, zt_3, by decide +kernel, by decide +kernel, by decide +kernel⟩
theorem zt_320 : (Cond.code ({ cls := "CordCart$Finds", name := "<init>", desc := "(LCordCart$Run;LCordCart$Weight;)V" } : MethodName) prog_4_method_1_code (3 : Nat) (Option.none : Option FieldType)) ∈ zT := zT_of 320 (by decide +kernel) (by decide +kernel)
theorem zcc_16 : zCalA 16 2 true := ⟨⟨by decide +kernel, rfl, rfl⟩, zt_320, rfl, zt_11, by decide +kernel, by decide +kernel, by decide +kernel⟩
theorem zt_782 : (Cond.code ({ cls := "CordCart$Finds", name := "addSpot", desc := "(III)V" } : MethodName) prog_4_method_2_code (6 : Nat) (Option.none : Option FieldType)) ∈ zT := zT_of 782 (by decide +kernel) (by decide +kernel)
theorem zcc_17 : zCalA 17 3 true := ⟨⟨by decide +kernel, rfl, rfl⟩, zt_782, rfl, zt_11, by decide +kernel, by decide +kernel, by decide +kernel⟩
theorem zt_798 : (Cond.code ({ cls := "CordCart$Finds", name := "missedSpots", desc := "()I" } : MethodName) prog_4_method_3_code (3 : Nat) (Option.some FieldType.int)) ∈ zT := zT_of 798 (by decide +kernel) (by decide +kernel)
theorem zcc_18 : zCalA 18 0 true := ⟨⟨by decide +kernel, rfl, rfl⟩, zt_798, rfl, zt_11, by decide +kernel, by decide +kernel, by decide +kernel⟩
theorem zt_844 : (Cond.code ({ cls := "CordCart$Finds", name := "foundAt", desc := "(I)I" } : MethodName) prog_4_method_4_code (2 : Nat) (Option.some FieldType.int)) ∈ zT := zT_of 844 (by decide +kernel) (by decide +kernel)
theorem zcc_19 : zCalA 19 1 true := ⟨⟨by decide +kernel, rfl, rfl⟩, zt_844, rfl, zt_11, by decide +kernel, by decide +kernel, by decide +kernel⟩
theorem zt_827 : (Cond.code ({ cls := "CordCart$Finds", name := "fillingsOf", desc := "(I)J" } : MethodName) prog_4_method_5_code (4 : Nat) (Option.some FieldType.long)) ∈ zT := zT_of 827 (by decide +kernel) (by decide +kernel)
theorem zcc_20 : zCalA 20 1 true := ⟨⟨by decide +kernel, rfl, rfl⟩, zt_827, rfl, zt_11, by decide +kernel, by decide +kernel, by decide +kernel⟩
theorem zt_820 : (Cond.code ({ cls := "CordCart$Finds", name := "findFillings", desc := "()V" } : MethodName) prog_4_method_6_code (6 : Nat) (Option.none : Option FieldType)) ∈ zT := zT_of 820 (by decide +kernel) (by decide +kernel)
theorem zcc_21 : zCalA 21 0 true := ⟨⟨by decide +kernel, rfl, rfl⟩, zt_820, rfl, zt_11, by decide +kernel, by decide +kernel, by decide +kernel⟩
theorem zt_853 : (Cond.code ({ cls := "CordCart$Finds", name := "fillCords", desc := "(I)V" } : MethodName) prog_4_method_7_code (4 : Nat) (Option.none : Option FieldType)) ∈ zT := zT_of 853 (by decide +kernel) (by decide +kernel)
theorem zcc_22 : zCalA 22 1 true := ⟨⟨by decide +kernel, rfl, rfl⟩, zt_853, rfl, zt_11, by decide +kernel, by decide +kernel, by decide +kernel⟩
theorem zt_861 : (Cond.code ({ cls := "CordCart$Finds", name := "findSlips", desc := "()V" } : MethodName) prog_4_method_8_code (2 : Nat) (Option.none : Option FieldType)) ∈ zT := zT_of 861 (by decide +kernel) (by decide +kernel)
theorem zcc_23 : zCalA 23 0 true := ⟨⟨by decide +kernel, rfl, rfl⟩, zt_861, rfl, zt_11, by decide +kernel, by decide +kernel, by decide +kernel⟩
theorem zt_885 : (Cond.code ({ cls := "CordCart$Finds", name := "firstPair", desc := "()I" } : MethodName) prog_4_method_9_code (3 : Nat) (Option.some FieldType.int)) ∈ zT := zT_of 885 (by decide +kernel) (by decide +kernel)
theorem zcc_24 : zCalA 24 0 true := ⟨⟨by decide +kernel, rfl, rfl⟩, zt_885, rfl, zt_11, by decide +kernel, by decide +kernel, by decide +kernel⟩
theorem zt_786 : (Cond.code ({ cls := "CordCart$Finds", name := "setSpot", desc := "(IIII)V" } : MethodName) prog_4_method_10_code (5 : Nat) (Option.none : Option FieldType)) ∈ zT := zT_of 786 (by decide +kernel) (by decide +kernel)
theorem zcc_25 : zCalA 25 4 true := ⟨⟨by decide +kernel, rfl, rfl⟩, zt_786, rfl, zt_11, by decide +kernel, by decide +kernel, by decide +kernel⟩
theorem zt_832 : (Cond.code ({ cls := "CordCart$Finds", name := "agrees", desc := "()Z" } : MethodName) prog_4_method_11_code (2 : Nat) (Option.some FieldType.boolean)) ∈ zT := zT_of 832 (by decide +kernel) (by decide +kernel)
theorem zcc_26 : zCalA 26 0 true := ⟨⟨by decide +kernel, rfl, rfl⟩, zt_832, rfl, zt_11, by decide +kernel, by decide +kernel, by decide +kernel⟩
theorem zt_804 : (Cond.code ({ cls := "CordCart$Finds", name := "comesTo", desc := "(I)Z" } : MethodName) prog_4_method_12_code (2 : Nat) (Option.some FieldType.boolean)) ∈ zT := zT_of 804 (by decide +kernel) (by decide +kernel)
theorem zcc_27 : zCalA 27 1 true := ⟨⟨by decide +kernel, rfl, rfl⟩, zt_804, rfl, zt_11, by decide +kernel, by decide +kernel, by decide +kernel⟩
theorem zt_836 : (Cond.code ({ cls := "CordCart$Finds", name := "addFound", desc := "(I)V" } : MethodName) prog_4_method_13_code (2 : Nat) (Option.none : Option FieldType)) ∈ zT := zT_of 836 (by decide +kernel) (by decide +kernel)
theorem zcc_28 : zCalA 28 1 true := ⟨⟨by decide +kernel, rfl, rfl⟩, zt_836, rfl, zt_11, by decide +kernel, by decide +kernel, by decide +kernel⟩
theorem zt_824 : (Cond.code ({ cls := "CordCart$Finds", name := "listGaps", desc := "()V" } : MethodName) prog_4_method_14_code (4 : Nat) (Option.none : Option FieldType)) ∈ zT := zT_of 824 (by decide +kernel) (by decide +kernel)
theorem zcc_29 : zCalA 29 0 true := ⟨⟨by decide +kernel, rfl, rfl⟩, zt_824, rfl, zt_11, by decide +kernel, by decide +kernel, by decide +kernel⟩
theorem zt_865 : (Cond.code ({ cls := "CordCart$Finds", name := "listSlips", desc := "()V" } : MethodName) prog_4_method_15_code (4 : Nat) (Option.none : Option FieldType)) ∈ zT := zT_of 865 (by decide +kernel) (by decide +kernel)
theorem zcc_30 : zCalA 30 0 true := ⟨⟨by decide +kernel, rfl, rfl⟩, zt_865, rfl, zt_11, by decide +kernel, by decide +kernel, by decide +kernel⟩
theorem zt_869 : (Cond.code ({ cls := "CordCart$Finds", name := "giveSlip", desc := "(I)V" } : MethodName) prog_4_method_16_code (2 : Nat) (Option.none : Option FieldType)) ∈ zT := zT_of 869 (by decide +kernel) (by decide +kernel)
theorem zcc_31 : zCalA 31 1 true := ⟨⟨by decide +kernel, rfl, rfl⟩, zt_869, rfl, zt_11, by decide +kernel, by decide +kernel, by decide +kernel⟩
theorem zt_873 : (Cond.code ({ cls := "CordCart$Finds", name := "takeSlipBack", desc := "(I)V" } : MethodName) prog_4_method_17_code (4 : Nat) (Option.none : Option FieldType)) ∈ zT := zT_of 873 (by decide +kernel) (by decide +kernel)
theorem zcc_32 : zCalA 32 1 true := ⟨⟨by decide +kernel, rfl, rfl⟩, zt_873, rfl, zt_11, by decide +kernel, by decide +kernel, by decide +kernel⟩
theorem zt_119 : (Cond.code ({ cls := "CordCart$Floor", name := "<init>", desc := "()V" } : MethodName) prog_5_method_1_code (1 : Nat) (Option.none : Option FieldType)) ∈ zT := zT_of 119 (by decide +kernel) (by decide +kernel)
theorem zcc_33 : zCalA 33 0 true := ⟨⟨by decide +kernel, rfl, rfl⟩, zt_119, rfl, zt_5, by decide +kernel, by decide +kernel, by decide +kernel⟩
theorem zt_403 : (Cond.code ({ cls := "CordCart$Floor", name := "free", desc := "()V" } : MethodName) prog_5_method_2_code (2 : Nat) (Option.none : Option FieldType)) ∈ zT := zT_of 403 (by decide +kernel) (by decide +kernel)
theorem zcc_34 : zCalA 34 0 true := ⟨⟨by decide +kernel, rfl, rfl⟩, zt_403, rfl, zt_5, by decide +kernel, by decide +kernel, by decide +kernel⟩
theorem zt_508 : (Cond.code ({ cls := "CordCart$Floor", name := "change", desc := "(II)V" } : MethodName) prog_5_method_3_code (4 : Nat) (Option.none : Option FieldType)) ∈ zT := zT_of 508 (by decide +kernel) (by decide +kernel)
theorem zcc_35 : zCalA 35 2 true := ⟨⟨by decide +kernel, rfl, rfl⟩, zt_508, rfl, zt_5, by decide +kernel, by decide +kernel, by decide +kernel⟩
theorem zt_500 : (Cond.code ({ cls := "CordCart$Floor", name := "isFree", desc := "(II)Z" } : MethodName) prog_5_method_4_code (3 : Nat) (Option.some FieldType.boolean)) ∈ zT := zT_of 500 (by decide +kernel) (by decide +kernel)
theorem zcc_36 : zCalA 36 2 true := ⟨⟨by decide +kernel, rfl, rfl⟩, zt_500, rfl, zt_5, by decide +kernel, by decide +kernel, by decide +kernel⟩
theorem zt_678 : (Cond.code ({ cls := "CordCart$Floor", name := "measure", desc := "(IIIIII)I" } : MethodName) prog_5_method_5_code (10 : Nat) (Option.some FieldType.int)) ∈ zT := zT_of 678 (by decide +kernel) (by decide +kernel)
theorem zcc_37 : zCalA 37 6 true := ⟨⟨by decide +kernel, rfl, rfl⟩, zt_678, rfl, zt_5, by decide +kernel, by decide +kernel, by decide +kernel⟩
theorem zt_746 : (Cond.code ({ cls := "CordCart$Floor", name := "firstMove", desc := "(IIII)I" } : MethodName) prog_5_method_6_code (7 : Nat) (Option.some FieldType.int)) ∈ zT := zT_of 746 (by decide +kernel) (by decide +kernel)
theorem zcc_38 : zCalA 38 4 true := ⟨⟨by decide +kernel, rfl, rfl⟩, zt_746, rfl, zt_5, by decide +kernel, by decide +kernel, by decide +kernel⟩
theorem zt_750 : (Cond.code ({ cls := "CordCart$Floor", name := "isNext", desc := "(IIII)Z" } : MethodName) prog_5_method_7_code (5 : Nat) (Option.some FieldType.boolean)) ∈ zT := zT_of 750 (by decide +kernel) (by decide +kernel)
theorem zcc_39 : zCalA 39 4 true := ⟨⟨by decide +kernel, rfl, rfl⟩, zt_750, rfl, zt_5, by decide +kernel, by decide +kernel, by decide +kernel⟩
theorem zt_687 : (Cond.code ({ cls := "CordCart$Floor", name := "stateOf", desc := "(III)I" } : MethodName) prog_5_method_8_code (3 : Nat) (Option.some FieldType.int)) ∈ zT := zT_of 687 (by decide +kernel) (by decide +kernel)
theorem zcc_40 : zCalA 40 3 true := ⟨⟨by decide +kernel, rfl, rfl⟩, zt_687, rfl, zt_5, by decide +kernel, by decide +kernel, by decide +kernel⟩
theorem zt_700 : (Cond.code ({ cls := "CordCart$Floor", name := "takeNearest", desc := "()I" } : MethodName) prog_5_method_9_code (1 : Nat) (Option.some FieldType.int)) ∈ zT := zT_of 700 (by decide +kernel) (by decide +kernel)
theorem zcc_41 : zCalA 41 0 true := ⟨⟨by decide +kernel, rfl, rfl⟩, zt_700, rfl, zt_5, by decide +kernel, by decide +kernel, by decide +kernel⟩
theorem zt_717 : (Cond.code ({ cls := "CordCart$Floor", name := "spread", desc := "(I)V" } : MethodName) prog_5_method_10_code (7 : Nat) (Option.none : Option FieldType)) ∈ zT := zT_of 717 (by decide +kernel) (by decide +kernel)
theorem zcc_42 : zCalA 42 1 true := ⟨⟨by decide +kernel, rfl, rfl⟩, zt_717, rfl, zt_5, by decide +kernel, by decide +kernel, by decide +kernel⟩
theorem zt_692 : (Cond.code ({ cls := "CordCart$Floor", name := "reach", desc := "(IILCordCart$Line;)V" } : MethodName) prog_5_method_11_code (4 : Nat) (Option.none : Option FieldType)) ∈ zT := zT_of 692 (by decide +kernel) (by decide +kernel)
theorem zcc_43 : zCalA 43 3 true := ⟨⟨by decide +kernel, rfl, rfl⟩, zt_692, rfl, zt_5, by decide +kernel, by decide +kernel, by decide +kernel⟩
theorem zt_125 : (Cond.code ({ cls := "CordCart$Line", name := "<init>", desc := "()V" } : MethodName) prog_6_method_1_code (1 : Nat) (Option.none : Option FieldType)) ∈ zT := zT_of 125 (by decide +kernel) (by decide +kernel)
theorem zcc_44 : zCalA 44 0 true := ⟨⟨by decide +kernel, rfl, rfl⟩, zt_125, rfl, zt_6, by decide +kernel, by decide +kernel, by decide +kernel⟩
theorem zt_684 : (Cond.code ({ cls := "CordCart$Line", name := "empty", desc := "()V" } : MethodName) prog_6_method_2_code (1 : Nat) (Option.none : Option FieldType)) ∈ zT := zT_of 684 (by decide +kernel) (by decide +kernel)
theorem zcc_45 : zCalA 45 0 true := ⟨⟨by decide +kernel, rfl, rfl⟩, zt_684, rfl, zt_6, by decide +kernel, by decide +kernel, by decide +kernel⟩
theorem zt_704 : (Cond.code ({ cls := "CordCart$Line", name := "isEmpty", desc := "()Z" } : MethodName) prog_6_method_3_code (1 : Nat) (Option.some FieldType.boolean)) ∈ zT := zT_of 704 (by decide +kernel) (by decide +kernel)
theorem zcc_46 : zCalA 46 0 true := ⟨⟨by decide +kernel, rfl, rfl⟩, zt_704, rfl, zt_6, by decide +kernel, by decide +kernel, by decide +kernel⟩
theorem zt_696 : (Cond.code ({ cls := "CordCart$Line", name := "add", desc := "(I)V" } : MethodName) prog_6_method_4_code (2 : Nat) (Option.none : Option FieldType)) ∈ zT := zT_of 696 (by decide +kernel) (by decide +kernel)
theorem zcc_47 : zCalA 47 1 true := ⟨⟨by decide +kernel, rfl, rfl⟩, zt_696, rfl, zt_6, by decide +kernel, by decide +kernel, by decide +kernel⟩
theorem zt_713 : (Cond.code ({ cls := "CordCart$Line", name := "first", desc := "()I" } : MethodName) prog_6_method_5_code (1 : Nat) (Option.some FieldType.int)) ∈ zT := zT_of 713 (by decide +kernel) (by decide +kernel)
theorem zcc_48 : zCalA 48 0 true := ⟨⟨by decide +kernel, rfl, rfl⟩, zt_713, rfl, zt_6, by decide +kernel, by decide +kernel, by decide +kernel⟩
theorem zt_708 : (Cond.code ({ cls := "CordCart$Line", name := "take", desc := "()I" } : MethodName) prog_6_method_6_code (1 : Nat) (Option.some FieldType.int)) ∈ zT := zT_of 708 (by decide +kernel) (by decide +kernel)
theorem zcc_49 : zCalA 49 0 true := ⟨⟨by decide +kernel, rfl, rfl⟩, zt_708, rfl, zt_6, by decide +kernel, by decide +kernel, by decide +kernel⟩
theorem zt_93 : (Cond.code ({ cls := "CordCart$Pose", name := "<init>", desc := "()V" } : MethodName) prog_7_method_1_code (1 : Nat) (Option.none : Option FieldType)) ∈ zT := zT_of 93 (by decide +kernel) (by decide +kernel)
theorem zcc_50 : zCalA 50 0 true := ⟨⟨by decide +kernel, rfl, rfl⟩, zt_93, rfl, zt_4, by decide +kernel, by decide +kernel, by decide +kernel⟩
theorem zt_407 : (Cond.code ({ cls := "CordCart$Pose", name := "place", desc := "(III)V" } : MethodName) prog_7_method_2_code (4 : Nat) (Option.none : Option FieldType)) ∈ zT := zT_of 407 (by decide +kernel) (by decide +kernel)
theorem zcc_51 : zCalA 51 3 true := ⟨⟨by decide +kernel, rfl, rfl⟩, zt_407, rfl, zt_4, by decide +kernel, by decide +kernel, by decide +kernel⟩
theorem zt_578 : (Cond.code ({ cls := "CordCart$Pose", name := "become", desc := "(LCordCart$Pose;)V" } : MethodName) prog_7_method_3_code (2 : Nat) (Option.none : Option FieldType)) ∈ zT := zT_of 578 (by decide +kernel) (by decide +kernel)
theorem zcc_52 : zCalA 52 1 true := ⟨⟨by decide +kernel, rfl, rfl⟩, zt_578, rfl, zt_4, by decide +kernel, by decide +kernel, by decide +kernel⟩
theorem zt_636 : (Cond.code ({ cls := "CordCart$Pose", name := "cellX", desc := "()I" } : MethodName) prog_7_method_4_code (1 : Nat) (Option.some FieldType.int)) ∈ zT := zT_of 636 (by decide +kernel) (by decide +kernel)
theorem zcc_53 : zCalA 53 0 true := ⟨⟨by decide +kernel, rfl, rfl⟩, zt_636, rfl, zt_4, by decide +kernel, by decide +kernel, by decide +kernel⟩
theorem zt_643 : (Cond.code ({ cls := "CordCart$Pose", name := "cellY", desc := "()I" } : MethodName) prog_7_method_5_code (1 : Nat) (Option.some FieldType.int)) ∈ zT := zT_of 643 (by decide +kernel) (by decide +kernel)
theorem zcc_54 : zCalA 54 0 true := ⟨⟨by decide +kernel, rfl, rfl⟩, zt_643, rfl, zt_4, by decide +kernel, by decide +kernel, by decide +kernel⟩
theorem zt_1062 : (Cond.code ({ cls := "CordCart$Pose", name := "part", desc := "(I)I" } : MethodName) prog_7_method_6_code (2 : Nat) (Option.some FieldType.int)) ∈ zT := zT_of 1062 (by decide +kernel) (by decide +kernel)
theorem zcc_55 : zCalA 55 1 true := ⟨⟨by decide +kernel, rfl, rfl⟩, zt_1062, rfl, zt_4, by decide +kernel, by decide +kernel, by decide +kernel⟩
theorem zt_611 : (Cond.code ({ cls := "CordCart$Pose", name := "roll", desc := "(IIII)V" } : MethodName) prog_7_method_7_code (10 : Nat) (Option.none : Option FieldType)) ∈ zT := zT_of 611 (by decide +kernel) (by decide +kernel)
theorem zcc_56 : zCalA 56 4 true := ⟨⟨by decide +kernel, rfl, rfl⟩, zt_611, rfl, zt_4, by decide +kernel, by decide +kernel, by decide +kernel⟩
theorem zt_615 : (Cond.code ({ cls := "CordCart$Pose", name := "unitsToChange", desc := "(II)I" } : MethodName) prog_7_method_8_code (4 : Nat) (Option.some FieldType.int)) ∈ zT := zT_of 615 (by decide +kernel) (by decide +kernel)
theorem zcc_57 : zCalA 57 2 true := ⟨⟨by decide +kernel, rfl, rfl⟩, zt_615, rfl, zt_4, by decide +kernel, by decide +kernel, by decide +kernel⟩
theorem zt_623 : (Cond.code ({ cls := "CordCart$Pose", name := "changeDirection", desc := "(I)V" } : MethodName) prog_7_method_9_code (2 : Nat) (Option.none : Option FieldType)) ∈ zT := zT_of 623 (by decide +kernel) (by decide +kernel)
theorem zcc_58 : zCalA 58 1 true := ⟨⟨by decide +kernel, rfl, rfl⟩, zt_623, rfl, zt_4, by decide +kernel, by decide +kernel, by decide +kernel⟩
theorem zt_186 : (Cond.code ({ cls := "CordCart$Run", name := "<init>", desc := "(LCordCart$Cart;LCordCart$Pose;)V" } : MethodName) prog_8_method_1_code (3 : Nat) (Option.none : Option FieldType)) ∈ zT := zT_of 186 (by decide +kernel) (by decide +kernel)
theorem zcc_59 : zCalA 59 2 true := ⟨⟨by decide +kernel, rfl, rfl⟩, zt_186, rfl, zt_8, by decide +kernel, by decide +kernel, by decide +kernel⟩
theorem zt_567 : (Cond.code ({ cls := "CordCart$Run", name := "takeKinds", desc := "()V" } : MethodName) prog_8_method_2_code (2 : Nat) (Option.none : Option FieldType)) ∈ zT := zT_of 567 (by decide +kernel) (by decide +kernel)
theorem zcc_60 : zCalA 60 0 true := ⟨⟨by decide +kernel, rfl, rfl⟩, zt_567, rfl, zt_8, by decide +kernel, by decide +kernel, by decide +kernel⟩
theorem zt_574 : (Cond.code ({ cls := "CordCart$Run", name := "restart", desc := "()V" } : MethodName) prog_8_method_3_code (2 : Nat) (Option.none : Option FieldType)) ∈ zT := zT_of 574 (by decide +kernel) (by decide +kernel)
theorem zcc_61 : zCalA 61 0 true := ⟨⟨by decide +kernel, rfl, rfl⟩, zt_574, rfl, zt_8, by decide +kernel, by decide +kernel, by decide +kernel⟩
theorem zt_590 : (Cond.code ({ cls := "CordCart$Run", name := "isOut", desc := "(I)Z" } : MethodName) prog_8_method_4_code (2 : Nat) (Option.some FieldType.boolean)) ∈ zT := zT_of 590 (by decide +kernel) (by decide +kernel)
theorem zcc_62 : zCalA 62 1 true := ⟨⟨by decide +kernel, rfl, rfl⟩, zt_590, rfl, zt_8, by decide +kernel, by decide +kernel, by decide +kernel⟩
theorem zt_586 : (Cond.code ({ cls := "CordCart$Run", name := "areAllOut", desc := "()Z" } : MethodName) prog_8_method_5_code (1 : Nat) (Option.some FieldType.boolean)) ∈ zT := zT_of 586 (by decide +kernel) (by decide +kernel)
theorem zcc_63 : zCalA 63 0 true := ⟨⟨by decide +kernel, rfl, rfl⟩, zt_586, rfl, zt_8, by decide +kernel, by decide +kernel, by decide +kernel⟩
theorem zt_809 : (Cond.code ({ cls := "CordCart$Run", name := "goOnTo", desc := "(I)V" } : MethodName) prog_8_method_6_code (3 : Nat) (Option.none : Option FieldType)) ∈ zT := zT_of 809 (by decide +kernel) (by decide +kernel)
theorem zcc_64 : zCalA 64 1 true := ⟨⟨by decide +kernel, rfl, rfl⟩, zt_809, rfl, zt_8, by decide +kernel, by decide +kernel, by decide +kernel⟩
theorem zt_603 : (Cond.code ({ cls := "CordCart$Run", name := "advance", desc := "(I)V" } : MethodName) prog_8_method_7_code (4 : Nat) (Option.none : Option FieldType)) ∈ zT := zT_of 603 (by decide +kernel) (by decide +kernel)
theorem zcc_65 : zCalA 65 1 true := ⟨⟨by decide +kernel, rfl, rfl⟩, zt_603, rfl, zt_8, by decide +kernel, by decide +kernel, by decide +kernel⟩
theorem zt_607 : (Cond.code ({ cls := "CordCart$Run", name := "turnOf", desc := "(I)I" } : MethodName) prog_8_method_8_code (2 : Nat) (Option.some FieldType.int)) ∈ zT := zT_of 607 (by decide +kernel) (by decide +kernel)
theorem zcc_66 : zCalA 66 1 true := ⟨⟨by decide +kernel, rfl, rfl⟩, zt_607, rfl, zt_8, by decide +kernel, by decide +kernel, by decide +kernel⟩
theorem zt_627 : (Cond.code ({ cls := "CordCart$Run", name := "give", desc := "(II)V" } : MethodName) prog_8_method_9_code (3 : Nat) (Option.none : Option FieldType)) ∈ zT := zT_of 627 (by decide +kernel) (by decide +kernel)
theorem zcc_67 : zCalA 67 2 true := ⟨⟨by decide +kernel, rfl, rfl⟩, zt_627, rfl, zt_8, by decide +kernel, by decide +kernel, by decide +kernel⟩
theorem zt_582 : (Cond.code ({ cls := "CordCart$Run", name := "goToSegment", desc := "(II)V" } : MethodName) prog_8_method_10_code (4 : Nat) (Option.none : Option FieldType)) ∈ zT := zT_of 582 (by decide +kernel) (by decide +kernel)
theorem zcc_68 : zCalA 68 2 true := ⟨⟨by decide +kernel, rfl, rfl⟩, zt_582, rfl, zt_8, by decide +kernel, by decide +kernel, by decide +kernel⟩
theorem zt_235 : (Cond.code ({ cls := "CordCart$Show", name := "<init>", desc := "()V" } : MethodName) prog_9_method_1_code (1 : Nat) (Option.none : Option FieldType)) ∈ zT := zT_of 235 (by decide +kernel) (by decide +kernel)
theorem zcc_69 : zCalA 69 0 true := ⟨⟨by decide +kernel, rfl, rfl⟩, zt_235, rfl, zt_9, by decide +kernel, by decide +kernel, by decide +kernel⟩
theorem zt_563 : (Cond.code ({ cls := "CordCart$Show", name := "play", desc := "(LCordCart$Run;LCordCart$Weight;LCordCart$Floor;)I" } : MethodName) prog_9_method_2_code (7 : Nat) (Option.some FieldType.int)) ∈ zT := zT_of 563 (by decide +kernel) (by decide +kernel)
theorem zcc_70 : zCalA 70 3 true := ⟨⟨by decide +kernel, rfl, rfl⟩, zt_563, rfl, zt_9, by decide +kernel, by decide +kernel, by decide +kernel⟩
theorem zt_599 : (Cond.code ({ cls := "CordCart$Show", name := "playUnit", desc := "(LCordCart$Run;LCordCart$Floor;Z)V" } : MethodName) prog_9_method_3_code (5 : Nat) (Option.none : Option FieldType)) ∈ zT := zT_of 599 (by decide +kernel) (by decide +kernel)
theorem zcc_71 : zCalA 71 3 true := ⟨⟨by decide +kernel, rfl, rfl⟩, zt_599, rfl, zt_9, by decide +kernel, by decide +kernel, by decide +kernel⟩
theorem zt_631 : (Cond.code ({ cls := "CordCart$Show", name := "noteAct", desc := "(LCordCart$Run;)V" } : MethodName) prog_9_method_4_code (3 : Nat) (Option.none : Option FieldType)) ∈ zT := zT_of 631 (by decide +kernel) (by decide +kernel)
theorem zcc_72 : zCalA 72 1 true := ⟨⟨by decide +kernel, rfl, rfl⟩, zt_631, rfl, zt_9, by decide +kernel, by decide +kernel, by decide +kernel⟩
theorem zt_648 : (Cond.code ({ cls := "CordCart$Show", name := "slipOn", desc := "(LCordCart$Run;I)V" } : MethodName) prog_9_method_5_code (5 : Nat) (Option.none : Option FieldType)) ∈ zT := zT_of 648 (by decide +kernel) (by decide +kernel)
theorem zcc_73 : zCalA 73 2 true := ⟨⟨by decide +kernel, rfl, rfl⟩, zt_648, rfl, zt_9, by decide +kernel, by decide +kernel, by decide +kernel⟩
theorem zt_367 : (Cond.code ({ cls := "CordCart$Tape", name := "<init>", desc := "()V" } : MethodName) prog_10_method_1_code (1 : Nat) (Option.none : Option FieldType)) ∈ zT := zT_of 367 (by decide +kernel) (by decide +kernel)
theorem zcc_74 : zCalA 74 0 true := ⟨⟨by decide +kernel, rfl, rfl⟩, zt_367, rfl, zt_12, by decide +kernel, by decide +kernel, by decide +kernel⟩
theorem zt_1015 : (Cond.code ({ cls := "CordCart$Tape", name := "isRow", desc := "()Z" } : MethodName) prog_10_method_2_code (1 : Nat) (Option.some FieldType.boolean)) ∈ zT := zT_of 1015 (by decide +kernel) (by decide +kernel)
theorem zcc_75 : zCalA 75 0 true := ⟨⟨by decide +kernel, rfl, rfl⟩, zt_1015, rfl, zt_12, by decide +kernel, by decide +kernel, by decide +kernel⟩
theorem zt_901 : (Cond.code ({ cls := "CordCart$Tape", name := "becomeRow", desc := "(II)V" } : MethodName) prog_10_method_3_code (3 : Nat) (Option.none : Option FieldType)) ∈ zT := zT_of 901 (by decide +kernel) (by decide +kernel)
theorem zcc_76 : zCalA 76 2 true := ⟨⟨by decide +kernel, rfl, rfl⟩, zt_901, rfl, zt_12, by decide +kernel, by decide +kernel, by decide +kernel⟩
theorem zt_1026 : (Cond.code ({ cls := "CordCart$Tape", name := "hasPlaces", desc := "(II)Z" } : MethodName) prog_10_method_4_code (3 : Nat) (Option.some FieldType.boolean)) ∈ zT := zT_of 1026 (by decide +kernel) (by decide +kernel)
theorem zcc_77 : zCalA 77 2 true := ⟨⟨by decide +kernel, rfl, rfl⟩, zt_1026, rfl, zt_12, by decide +kernel, by decide +kernel, by decide +kernel⟩
theorem zt_1018 : (Cond.code ({ cls := "CordCart$Tape", name := "narrowed", desc := "(JI)J" } : MethodName) prog_10_method_5_code (3 : Nat) (Option.some FieldType.long)) ∈ zT := zT_of 1018 (by decide +kernel) (by decide +kernel)
theorem zcc_78 : zCalA 78 2 true := ⟨⟨by decide +kernel, rfl, rfl⟩, zt_1018, rfl, zt_12, by decide +kernel, by decide +kernel, by decide +kernel⟩
theorem zt_162 : (Cond.code ({ cls := "CordCart$Weight", name := "<init>", desc := "()V" } : MethodName) prog_11_method_1_code (1 : Nat) (Option.none : Option FieldType)) ∈ zT := zT_of 162 (by decide +kernel) (by decide +kernel)
theorem zcc_79 : zCalA 79 0 true := ⟨⟨by decide +kernel, rfl, rfl⟩, zt_162, rfl, zt_7, by decide +kernel, by decide +kernel, by decide +kernel⟩
theorem zt_411 : (Cond.code ({ cls := "CordCart$Weight", name := "reset", desc := "()V" } : MethodName) prog_11_method_2_code (1 : Nat) (Option.none : Option FieldType)) ∈ zT := zT_of 411 (by decide +kernel) (by decide +kernel)
theorem zcc_80 : zCalA 80 0 true := ⟨⟨by decide +kernel, rfl, rfl⟩, zt_411, rfl, zt_7, by decide +kernel, by decide +kernel, by decide +kernel⟩
theorem zt_523 : (Cond.code ({ cls := "CordCart$Weight", name := "isSand", desc := "([JI)Z" } : MethodName) prog_11_method_3_code (4 : Nat) (Option.some FieldType.boolean)) ∈ zT := zT_of 523 (by decide +kernel) (by decide +kernel)
theorem zcc_81 : zCalA 81 2 true := ⟨⟨by decide +kernel, rfl, rfl⟩, zt_523, rfl, zt_7, by decide +kernel, by decide +kernel, by decide +kernel⟩
theorem zt_528 : (Cond.code ({ cls := "CordCart$Weight", name := "takeSand", desc := "([JI)V" } : MethodName) prog_11_method_4_code (4 : Nat) (Option.none : Option FieldType)) ∈ zT := zT_of 528 (by decide +kernel) (by decide +kernel)
theorem zcc_82 : zCalA 82 2 true := ⟨⟨by decide +kernel, rfl, rfl⟩, zt_528, rfl, zt_7, by decide +kernel, by decide +kernel, by decide +kernel⟩
theorem zt_594 : (Cond.code ({ cls := "CordCart$Weight", name := "sandOf", desc := "(I)I" } : MethodName) prog_11_method_5_code (2 : Nat) (Option.some FieldType.int)) ∈ zT := zT_of 594 (by decide +kernel) (by decide +kernel)
theorem zcc_83 : zCalA 83 1 true := ⟨⟨by decide +kernel, rfl, rfl⟩, zt_594, rfl, zt_7, by decide +kernel, by decide +kernel, by decide +kernel⟩
theorem zt_277 : (Cond.code ({ cls := "CordCart$Wish", name := "<init>", desc := "(LCordCart$Floor;)V" } : MethodName) prog_12_method_1_code (3 : Nat) (Option.none : Option FieldType)) ∈ zT := zT_of 277 (by decide +kernel) (by decide +kernel)
theorem zcc_84 : zCalA 84 1 true := ⟨⟨by decide +kernel, rfl, rfl⟩, zt_277, rfl, zt_10, by decide +kernel, by decide +kernel, by decide +kernel⟩
theorem zt_666 : (Cond.code ({ cls := "CordCart$Wish", name := "add", desc := "(III)V" } : MethodName) prog_12_method_2_code (4 : Nat) (Option.none : Option FieldType)) ∈ zT := zT_of 666 (by decide +kernel) (by decide +kernel)
theorem zcc_85 : zCalA 85 3 true := ⟨⟨by decide +kernel, rfl, rfl⟩, zt_666, rfl, zt_10, by decide +kernel, by decide +kernel, by decide +kernel⟩
theorem zt_735 : (Cond.code ({ cls := "CordCart$Wish", name := "windFrom", desc := "(LCordCart$Pose;I)I" } : MethodName) prog_12_method_3_code (5 : Nat) (Option.some FieldType.int)) ∈ zT := zT_of 735 (by decide +kernel) (by decide +kernel)
theorem zcc_86 : zCalA 86 2 true := ⟨⟨by decide +kernel, rfl, rfl⟩, zt_735, rfl, zt_10, by decide +kernel, by decide +kernel, by decide +kernel⟩
theorem zt_741 : (Cond.code ({ cls := "CordCart$Wish", name := "goTo", desc := "(II)Z" } : MethodName) prog_12_method_4_code (6 : Nat) (Option.some FieldType.boolean)) ∈ zT := zT_of 741 (by decide +kernel) (by decide +kernel)
theorem zcc_87 : zCalA 87 2 true := ⟨⟨by decide +kernel, rfl, rfl⟩, zt_741, rfl, zt_10, by decide +kernel, by decide +kernel, by decide +kernel⟩
theorem zt_770 : (Cond.code ({ cls := "CordCart$Wish", name := "faceTo", desc := "(I)V" } : MethodName) prog_12_method_5_code (2 : Nat) (Option.none : Option FieldType)) ∈ zT := zT_of 770 (by decide +kernel) (by decide +kernel)
theorem zcc_88 : zCalA 88 1 true := ⟨⟨by decide +kernel, rfl, rfl⟩, zt_770, rfl, zt_10, by decide +kernel, by decide +kernel, by decide +kernel⟩
theorem zt_754 : (Cond.code ({ cls := "CordCart$Wish", name := "move", desc := "(I)V" } : MethodName) prog_12_method_6_code (2 : Nat) (Option.none : Option FieldType)) ∈ zT := zT_of 754 (by decide +kernel) (by decide +kernel)
theorem zcc_89 : zCalA 89 1 true := ⟨⟨by decide +kernel, rfl, rfl⟩, zt_754, rfl, zt_10, by decide +kernel, by decide +kernel, by decide +kernel⟩
theorem zt_758 : (Cond.code ({ cls := "CordCart$Wish", name := "windUnits", desc := "(IIII)V" } : MethodName) prog_12_method_7_code (6 : Nat) (Option.none : Option FieldType)) ∈ zT := zT_of 758 (by decide +kernel) (by decide +kernel)
theorem zcc_90 : zCalA 90 4 true := ⟨⟨by decide +kernel, rfl, rfl⟩, zt_758, rfl, zt_10, by decide +kernel, by decide +kernel, by decide +kernel⟩
theorem zt_26 : (Cond.code ({ cls := "CordCart", name := "<init>", desc := "()V" } : MethodName) prog_1_method_1_code (2 : Nat) (Option.none : Option FieldType)) ∈ zT := zT_of 26 (by decide +kernel) (by decide +kernel)
theorem zcc_91 : zCalA 91 0 true := ⟨⟨by decide +kernel, rfl, rfl⟩, zt_26, rfl, zt_1, by decide +kernel, by decide +kernel, by decide +kernel⟩
theorem zt_446 : (Cond.code ({ cls := "CordCart", name := "begin", desc := "()I" } : MethodName) prog_1_method_2_code (1 : Nat) (Option.some FieldType.int)) ∈ zT := zT_of 446 (by decide +kernel) (by decide +kernel)
theorem zcc_92 : zCalA 92 0 true := ⟨⟨by decide +kernel, rfl, rfl⟩, zt_446, rfl, zt_1, by decide +kernel, by decide +kernel, by decide +kernel⟩
theorem zt_450 : (Cond.code ({ cls := "CordCart", name := "wind", desc := "(IIII)I" } : MethodName) prog_1_method_3_code (6 : Nat) (Option.some FieldType.int)) ∈ zT := zT_of 450 (by decide +kernel) (by decide +kernel)
theorem zcc_93 : zCalA 93 4 true := ⟨⟨by decide +kernel, rfl, rfl⟩, zt_450, rfl, zt_1, by decide +kernel, by decide +kernel, by decide +kernel⟩
theorem zt_464 : (Cond.code ({ cls := "CordCart", name := "unwind", desc := "(I)I" } : MethodName) prog_1_method_4_code (3 : Nat) (Option.some FieldType.int)) ∈ zT := zT_of 464 (by decide +kernel) (by decide +kernel)
theorem zcc_94 : zCalA 94 1 true := ⟨⟨by decide +kernel, rfl, rfl⟩, zt_464, rfl, zt_1, by decide +kernel, by decide +kernel, by decide +kernel⟩
theorem zt_468 : (Cond.code ({ cls := "CordCart", name := "segment", desc := "(III)I" } : MethodName) prog_1_method_5_code (5 : Nat) (Option.some FieldType.int)) ∈ zT := zT_of 468 (by decide +kernel) (by decide +kernel)
theorem zcc_95 : zCalA 95 3 true := ⟨⟨by decide +kernel, rfl, rfl⟩, zt_468, rfl, zt_1, by decide +kernel, by decide +kernel, by decide +kernel⟩
theorem zt_476 : (Cond.code ({ cls := "CordCart", name := "hard", desc := "(I)I" } : MethodName) prog_1_method_6_code (3 : Nat) (Option.some FieldType.int)) ∈ zT := zT_of 476 (by decide +kernel) (by decide +kernel)
theorem zcc_96 : zCalA 96 1 true := ⟨⟨by decide +kernel, rfl, rfl⟩, zt_476, rfl, zt_1, by decide +kernel, by decide +kernel, by decide +kernel⟩
theorem zt_480 : (Cond.code ({ cls := "CordCart", name := "peg", desc := "(II)I" } : MethodName) prog_1_method_7_code (4 : Nat) (Option.some FieldType.int)) ∈ zT := zT_of 480 (by decide +kernel) (by decide +kernel)
theorem zcc_97 : zCalA 97 2 true := ⟨⟨by decide +kernel, rfl, rfl⟩, zt_480, rfl, zt_1, by decide +kernel, by decide +kernel, by decide +kernel⟩
theorem zt_493 : (Cond.code ({ cls := "CordCart", name := "start", desc := "(III)I" } : MethodName) prog_1_method_8_code (4 : Nat) (Option.some FieldType.int)) ∈ zT := zT_of 493 (by decide +kernel) (by decide +kernel)
theorem zcc_98 : zCalA 98 3 true := ⟨⟨by decide +kernel, rfl, rfl⟩, zt_493, rfl, zt_1, by decide +kernel, by decide +kernel, by decide +kernel⟩
theorem zt_504 : (Cond.code ({ cls := "CordCart", name := "block", desc := "(II)I" } : MethodName) prog_1_method_9_code (3 : Nat) (Option.some FieldType.int)) ∈ zT := zT_of 504 (by decide +kernel) (by decide +kernel)
theorem zcc_99 : zCalA 99 2 true := ⟨⟨by decide +kernel, rfl, rfl⟩, zt_504, rfl, zt_1, by decide +kernel, by decide +kernel, by decide +kernel⟩
theorem zt_513 : (Cond.code ({ cls := "CordCart", name := "sand", desc := "(II)I" } : MethodName) prog_1_method_10_code (4 : Nat) (Option.some FieldType.int)) ∈ zT := zT_of 513 (by decide +kernel) (by decide +kernel)
theorem zcc_100 : zCalA 100 2 true := ⟨⟨by decide +kernel, rfl, rfl⟩, zt_513, rfl, zt_1, by decide +kernel, by decide +kernel, by decide +kernel⟩
theorem zt_535 : (Cond.code ({ cls := "CordCart", name := "hold", desc := "(I)I" } : MethodName) prog_1_method_11_code (3 : Nat) (Option.some FieldType.int)) ∈ zT := zT_of 535 (by decide +kernel) (by decide +kernel)
theorem zcc_101 : zCalA 101 1 true := ⟨⟨by decide +kernel, rfl, rfl⟩, zt_535, rfl, zt_1, by decide +kernel, by decide +kernel, by decide +kernel⟩
theorem zt_539 : (Cond.code ({ cls := "CordCart", name := "fall", desc := "(I)I" } : MethodName) prog_1_method_12_code (3 : Nat) (Option.some FieldType.int)) ∈ zT := zT_of 539 (by decide +kernel) (by decide +kernel)
theorem zcc_102 : zCalA 102 1 true := ⟨⟨by decide +kernel, rfl, rfl⟩, zt_539, rfl, zt_1, by decide +kernel, by decide +kernel, by decide +kernel⟩
theorem zt_543 : (Cond.code ({ cls := "CordCart", name := "cord", desc := "(I)I" } : MethodName) prog_1_method_13_code (2 : Nat) (Option.some FieldType.int)) ∈ zT := zT_of 543 (by decide +kernel) (by decide +kernel)
theorem zcc_103 : zCalA 103 1 true := ⟨⟨by decide +kernel, rfl, rfl⟩, zt_543, rfl, zt_1, by decide +kernel, by decide +kernel, by decide +kernel⟩
theorem zt_551 : (Cond.code ({ cls := "CordCart", name := "show", desc := "()I" } : MethodName) prog_1_method_14_code (1 : Nat) (Option.some FieldType.int)) ∈ zT := zT_of 551 (by decide +kernel) (by decide +kernel)
theorem zcc_104 : zCalA 104 0 true := ⟨⟨by decide +kernel, rfl, rfl⟩, zt_551, rfl, zt_1, by decide +kernel, by decide +kernel, by decide +kernel⟩
theorem zt_1040 : (Cond.code ({ cls := "CordCart", name := "pose", desc := "(I)I" } : MethodName) prog_1_method_15_code (2 : Nat) (Option.some FieldType.int)) ∈ zT := zT_of 1040 (by decide +kernel) (by decide +kernel)
theorem zcc_105 : zCalA 105 1 true := ⟨⟨by decide +kernel, rfl, rfl⟩, zt_1040, rfl, zt_1, by decide +kernel, by decide +kernel, by decide +kernel⟩
theorem zt_1069 : (Cond.code ({ cls := "CordCart", name := "acted", desc := "(II)I" } : MethodName) prog_1_method_16_code (3 : Nat) (Option.some FieldType.int)) ∈ zT := zT_of 1069 (by decide +kernel) (by decide +kernel)
theorem zcc_106 : zCalA 106 2 true := ⟨⟨by decide +kernel, rfl, rfl⟩, zt_1069, rfl, zt_1, by decide +kernel, by decide +kernel, by decide +kernel⟩
theorem zt_654 : (Cond.code ({ cls := "CordCart", name := "slipped", desc := "(II)I" } : MethodName) prog_1_method_17_code (3 : Nat) (Option.some FieldType.int)) ∈ zT := zT_of 654 (by decide +kernel) (by decide +kernel)
theorem zcc_107 : zCalA 107 2 true := ⟨⟨by decide +kernel, rfl, rfl⟩, zt_654, rfl, zt_1, by decide +kernel, by decide +kernel, by decide +kernel⟩
theorem zt_1078 : (Cond.code ({ cls := "CordCart", name := "where", desc := "(II)I" } : MethodName) prog_1_method_18_code (3 : Nat) (Option.some FieldType.int)) ∈ zT := zT_of 1078 (by decide +kernel) (by decide +kernel)
theorem zcc_108 : zCalA 108 2 true := ⟨⟨by decide +kernel, rfl, rfl⟩, zt_1078, rfl, zt_1, by decide +kernel, by decide +kernel, by decide +kernel⟩
theorem zt_659 : (Cond.code ({ cls := "CordCart", name := "wish", desc := "(III)I" } : MethodName) prog_1_method_19_code (4 : Nat) (Option.some FieldType.int)) ∈ zT := zT_of 659 (by decide +kernel) (by decide +kernel)
theorem zcc_109 : zCalA 109 3 true := ⟨⟨by decide +kernel, rfl, rfl⟩, zt_659, rfl, zt_1, by decide +kernel, by decide +kernel, by decide +kernel⟩
theorem zt_670 : (Cond.code ({ cls := "CordCart", name := "wishless", desc := "()I" } : MethodName) prog_1_method_20_code (2 : Nat) (Option.some FieldType.int)) ∈ zT := zT_of 670 (by decide +kernel) (by decide +kernel)
theorem zcc_110 : zCalA 110 0 true := ⟨⟨by decide +kernel, rfl, rfl⟩, zt_670, rfl, zt_1, by decide +kernel, by decide +kernel, by decide +kernel⟩
theorem zt_674 : (Cond.code ({ cls := "CordCart", name := "way", desc := "(IIIII)I" } : MethodName) prog_1_method_21_code (7 : Nat) (Option.some FieldType.int)) ∈ zT := zT_of 674 (by decide +kernel) (by decide +kernel)
theorem zcc_111 : zCalA 111 5 true := ⟨⟨by decide +kernel, rfl, rfl⟩, zt_674, rfl, zt_1, by decide +kernel, by decide +kernel, by decide +kernel⟩
theorem zt_725 : (Cond.code ({ cls := "CordCart", name := "make", desc := "()I" } : MethodName) prog_1_method_22_code (3 : Nat) (Option.some FieldType.int)) ∈ zT := zT_of 725 (by decide +kernel) (by decide +kernel)
theorem zcc_112 : zCalA 112 0 true := ⟨⟨by decide +kernel, rfl, rfl⟩, zt_725, rfl, zt_1, by decide +kernel, by decide +kernel, by decide +kernel⟩
theorem zt_778 : (Cond.code ({ cls := "CordCart", name := "spot", desc := "(III)I" } : MethodName) prog_1_method_23_code (4 : Nat) (Option.some FieldType.int)) ∈ zT := zT_of 778 (by decide +kernel) (by decide +kernel)
theorem zcc_113 : zCalA 113 3 true := ⟨⟨by decide +kernel, rfl, rfl⟩, zt_778, rfl, zt_1, by decide +kernel, by decide +kernel, by decide +kernel⟩
theorem zt_790 : (Cond.code ({ cls := "CordCart", name := "spotless", desc := "()I" } : MethodName) prog_1_method_24_code (2 : Nat) (Option.some FieldType.int)) ∈ zT := zT_of 790 (by decide +kernel) (by decide +kernel)
theorem zcc_114 : zCalA 114 0 true := ⟨⟨by decide +kernel, rfl, rfl⟩, zt_790, rfl, zt_1, by decide +kernel, by decide +kernel, by decide +kernel⟩
theorem zt_794 : (Cond.code ({ cls := "CordCart", name := "miss", desc := "()I" } : MethodName) prog_1_method_25_code (1 : Nat) (Option.some FieldType.int)) ∈ zT := zT_of 794 (by decide +kernel) (by decide +kernel)
theorem zcc_115 : zCalA 115 0 true := ⟨⟨by decide +kernel, rfl, rfl⟩, zt_794, rfl, zt_1, by decide +kernel, by decide +kernel, by decide +kernel⟩
theorem zt_816 : (Cond.code ({ cls := "CordCart", name := "fillings", desc := "()I" } : MethodName) prog_1_method_26_code (1 : Nat) (Option.some FieldType.int)) ∈ zT := zT_of 816 (by decide +kernel) (by decide +kernel)
theorem zcc_116 : zCalA 116 0 true := ⟨⟨by decide +kernel, rfl, rfl⟩, zt_816, rfl, zt_1, by decide +kernel, by decide +kernel, by decide +kernel⟩
theorem zt_840 : (Cond.code ({ cls := "CordCart", name := "filling", desc := "(I)I" } : MethodName) prog_1_method_27_code (2 : Nat) (Option.some FieldType.int)) ∈ zT := zT_of 840 (by decide +kernel) (by decide +kernel)
theorem zcc_117 : zCalA 117 1 true := ⟨⟨by decide +kernel, rfl, rfl⟩, zt_840, rfl, zt_1, by decide +kernel, by decide +kernel, by decide +kernel⟩
theorem zt_848 : (Cond.code ({ cls := "CordCart", name := "fill", desc := "(I)I" } : MethodName) prog_1_method_28_code (3 : Nat) (Option.some FieldType.int)) ∈ zT := zT_of 848 (by decide +kernel) (by decide +kernel)
theorem zcc_118 : zCalA 118 1 true := ⟨⟨by decide +kernel, rfl, rfl⟩, zt_848, rfl, zt_1, by decide +kernel, by decide +kernel, by decide +kernel⟩
theorem zt_857 : (Cond.code ({ cls := "CordCart", name := "slips", desc := "()I" } : MethodName) prog_1_method_29_code (1 : Nat) (Option.some FieldType.int)) ∈ zT := zT_of 857 (by decide +kernel) (by decide +kernel)
theorem zcc_119 : zCalA 119 0 true := ⟨⟨by decide +kernel, rfl, rfl⟩, zt_857, rfl, zt_1, by decide +kernel, by decide +kernel, by decide +kernel⟩
theorem zt_877 : (Cond.code ({ cls := "CordCart", name := "slip", desc := "(I)I" } : MethodName) prog_1_method_30_code (2 : Nat) (Option.some FieldType.int)) ∈ zT := zT_of 877 (by decide +kernel) (by decide +kernel)
theorem zcc_120 : zCalA 120 1 true := ⟨⟨by decide +kernel, rfl, rfl⟩, zt_877, rfl, zt_1, by decide +kernel, by decide +kernel, by decide +kernel⟩
theorem zt_881 : (Cond.code ({ cls := "CordCart", name := "pair", desc := "()I" } : MethodName) prog_1_method_31_code (1 : Nat) (Option.some FieldType.int)) ∈ zT := zT_of 881 (by decide +kernel) (by decide +kernel)
theorem zcc_121 : zCalA 121 0 true := ⟨⟨by decide +kernel, rfl, rfl⟩, zt_881, rfl, zt_1, by decide +kernel, by decide +kernel, by decide +kernel⟩
theorem zt_889 : (Cond.code ({ cls := "CordCart", name := "reads", desc := "()I" } : MethodName) prog_1_method_32_code (3 : Nat) (Option.some FieldType.int)) ∈ zT := zT_of 889 (by decide +kernel) (by decide +kernel)
theorem zcc_122 : zCalA 122 0 true := ⟨⟨by decide +kernel, rfl, rfl⟩, zt_889, rfl, zt_1, by decide +kernel, by decide +kernel, by decide +kernel⟩
theorem zt_897 : (Cond.code ({ cls := "CordCart", name := "tape", desc := "(III)I" } : MethodName) prog_1_method_33_code (4 : Nat) (Option.some FieldType.int)) ∈ zT := zT_of 897 (by decide +kernel) (by decide +kernel)
theorem zcc_123 : zCalA 123 3 true := ⟨⟨by decide +kernel, rfl, rfl⟩, zt_897, rfl, zt_1, by decide +kernel, by decide +kernel, by decide +kernel⟩
theorem zt_908 : (Cond.code ({ cls := "CordCart", name := "keep", desc := "(I)I" } : MethodName) prog_1_method_34_code (2 : Nat) (Option.some FieldType.int)) ∈ zT := zT_of 908 (by decide +kernel) (by decide +kernel)
theorem zcc_124 : zCalA 124 1 true := ⟨⟨by decide +kernel, rfl, rfl⟩, zt_908, rfl, zt_1, by decide +kernel, by decide +kernel, by decide +kernel⟩
theorem zt_922 : (Cond.code ({ cls := "CordCart", name := "back", desc := "(I)I" } : MethodName) prog_1_method_35_code (3 : Nat) (Option.some FieldType.int)) ∈ zT := zT_of 922 (by decide +kernel) (by decide +kernel)
theorem zcc_125 : zCalA 125 1 true := ⟨⟨by decide +kernel, rfl, rfl⟩, zt_922, rfl, zt_1, by decide +kernel, by decide +kernel, by decide +kernel⟩
theorem zt_930 : (Cond.codeWith ({ cls := "CordCart", name := "toss", desc := "(I)I" } : MethodName) prog_1_method_36_code (4 : Nat) (Option.some FieldType.int) [((12 : Nat), (24 : Nat), (27 : Nat), (195 : Nat))]) ∈ zT := zT_of 930 (by decide +kernel) (by decide +kernel)
theorem zcc_126 : zCalA 126 1 false := ⟨⟨by decide +kernel, rfl, rfl⟩, zt_930, rfl, zt_1, by decide +kernel, by decide +kernel, by decide +kernel⟩
theorem zt_1007 : (Cond.code ({ cls := "CordCart", name := "clear", desc := "(I)I" } : MethodName) prog_1_method_37_code (3 : Nat) (Option.some FieldType.int)) ∈ zT := zT_of 1007 (by decide +kernel) (by decide +kernel)
theorem zcc_127 : zCalA 127 1 true := ⟨⟨by decide +kernel, rfl, rfl⟩, zt_1007, rfl, zt_1, by decide +kernel, by decide +kernel, by decide +kernel⟩
theorem zt_1011 : (Cond.code ({ cls := "CordCart", name := "put", desc := "(IIJ)I" } : MethodName) prog_1_method_38_code (6 : Nat) (Option.some FieldType.int)) ∈ zT := zT_of 1011 (by decide +kernel) (by decide +kernel)
theorem zcc_128 : zCalA 128 3 true := ⟨⟨by decide +kernel, rfl, rfl⟩, zt_1011, rfl, zt_1, by decide +kernel, by decide +kernel, by decide +kernel⟩
theorem zt_1090 : (Cond.code ({ cls := "CordCart", name := "at", desc := "(II)J" } : MethodName) prog_1_method_39_code (4 : Nat) (Option.some FieldType.long)) ∈ zT := zT_of 1090 (by decide +kernel) (by decide +kernel)
theorem zcc_129 : zCalA 129 2 true := ⟨⟨by decide +kernel, rfl, rfl⟩, zt_1090, rfl, zt_1, by decide +kernel, by decide +kernel, by decide +kernel⟩
theorem zt_1022 : (Cond.code ({ cls := "CordCart", name := "copy", desc := "(IIIII)I" } : MethodName) prog_1_method_40_code (8 : Nat) (Option.some FieldType.int)) ∈ zT := zT_of 1022 (by decide +kernel) (by decide +kernel)
theorem zcc_130 : zCalA 130 5 true := ⟨⟨by decide +kernel, rfl, rfl⟩, zt_1022, rfl, zt_1, by decide +kernel, by decide +kernel, by decide +kernel⟩
theorem zt_1031 : (Cond.code ({ cls := "CordCart", name := "count", desc := "(I)I" } : MethodName) prog_1_method_41_code (2 : Nat) (Option.some FieldType.int)) ∈ zT := zT_of 1031 (by decide +kernel) (by decide +kernel)
theorem zcc_131 : zCalA 131 1 true := ⟨⟨by decide +kernel, rfl, rfl⟩, zt_1031, rfl, zt_1, by decide +kernel, by decide +kernel, by decide +kernel⟩
theorem zt_392 : (Cond.code ({ cls := "CordCart", name := "reset", desc := "()V" } : MethodName) prog_1_method_42_code (1 : Nat) (Option.none : Option FieldType)) ∈ zT := zT_of 392 (by decide +kernel) (by decide +kernel)
theorem zcc_132 : zCalA 132 0 true := ⟨⟨by decide +kernel, rfl, rfl⟩, zt_392, rfl, zt_1, by decide +kernel, by decide +kernel, by decide +kernel⟩
theorem zt_456 : (Cond.code ({ cls := "CordCart", name := "isIn", desc := "(III)Z" } : MethodName) prog_1_method_43_code (3 : Nat) (Option.some FieldType.boolean)) ∈ zT := zT_of 456 (by decide +kernel) (by decide +kernel)
theorem zcc_133 : zCalA 133 3 true := ⟨⟨by decide +kernel, rfl, rfl⟩, zt_456, rfl, zt_1, by decide +kernel, by decide +kernel, by decide +kernel⟩
theorem zt_453 : (Cond.code ({ cls := "CordCart", name := "isAxle", desc := "(I)Z" } : MethodName) prog_1_method_44_code (1 : Nat) (Option.some FieldType.boolean)) ∈ zT := zT_of 453 (by decide +kernel) (by decide +kernel)
theorem zcc_134 : zCalA 134 1 true := ⟨⟨by decide +kernel, rfl, rfl⟩, zt_453, rfl, zt_1, by decide +kernel, by decide +kernel, by decide +kernel⟩
theorem zt_496 : (Cond.code ({ cls := "CordCart", name := "isCell", desc := "(II)Z" } : MethodName) prog_1_method_45_code (2 : Nat) (Option.some FieldType.boolean)) ∈ zT := zT_of 496 (by decide +kernel) (by decide +kernel)
theorem zcc_135 : zCalA 135 2 true := ⟨⟨by decide +kernel, rfl, rfl⟩, zt_496, rfl, zt_1, by decide +kernel, by decide +kernel, by decide +kernel⟩
theorem zt_516 : (Cond.code ({ cls := "CordCart", name := "isTape", desc := "(I)Z" } : MethodName) prog_1_method_46_code (1 : Nat) (Option.some FieldType.boolean)) ∈ zT := zT_of 516 (by decide +kernel) (by decide +kernel)
theorem zcc_136 : zCalA 136 1 true := ⟨⟨by decide +kernel, rfl, rfl⟩, zt_516, rfl, zt_1, by decide +kernel, by decide +kernel, by decide +kernel⟩
theorem zt_662 : (Cond.code ({ cls := "CordCart", name := "isPart", desc := "(III)Z" } : MethodName) prog_1_method_47_code (3 : Nat) (Option.some FieldType.boolean)) ∈ zT := zT_of 662 (by decide +kernel) (by decide +kernel)
theorem zcc_137 : zCalA 137 3 true := ⟨⟨by decide +kernel, rfl, rfl⟩, zt_662, rfl, zt_1, by decide +kernel, by decide +kernel, by decide +kernel⟩
theorem zt_729 : (Cond.code ({ cls := "CordCart", name := "makeWindings", desc := "()I" } : MethodName) prog_1_method_48_code (2 : Nat) (Option.some FieldType.int)) ∈ zT := zT_of 729 (by decide +kernel) (by decide +kernel)
theorem zcc_138 : zCalA 138 0 true := ⟨⟨by decide +kernel, rfl, rfl⟩, zt_729, rfl, zt_1, by decide +kernel, by decide +kernel, by decide +kernel⟩
theorem zt_926 : (Cond.code ({ cls := "CordCart", name := "refusalOfCart", desc := "(I)I" } : MethodName) prog_1_method_49_code (2 : Nat) (Option.some FieldType.int)) ∈ zT := zT_of 926 (by decide +kernel) (by decide +kernel)
theorem zcc_139 : zCalA 139 1 true := ⟨⟨by decide +kernel, rfl, rfl⟩, zt_926, rfl, zt_1, by decide +kernel, by decide +kernel, by decide +kernel⟩
theorem zt_520 : (Cond.code ({ cls := "CordCart", name := "refusedByHost", desc := "(I)I" } : MethodName) prog_1_method_50_code (2 : Nat) (Option.some FieldType.int)) ∈ zT := zT_of 520 (by decide +kernel) (by decide +kernel)
theorem zcc_140 : zCalA 140 1 true := ⟨⟨by decide +kernel, rfl, rfl⟩, zt_520, rfl, zt_1, by decide +kernel, by decide +kernel, by decide +kernel⟩
theorem zt_1097 : (Cond.code ({ cls := "CordCartModel", name := "<init>", desc := "()V" } : MethodName) prog_14_method_1_code (1 : Nat) (Option.none : Option FieldType)) ∈ zT := zT_of 1097 (by decide +kernel) (by decide +kernel)
theorem zcc_141 : zCalA 141 0 true := ⟨⟨by decide +kernel, rfl, rfl⟩, zt_1097, rfl, zt_14, by decide +kernel, by decide +kernel, by decide +kernel⟩
theorem zt_1304 : (Cond.code ({ cls := "CordCartModel", name := "thrown", desc := "()I" } : MethodName) prog_14_method_2_code (1 : Nat) (Option.some FieldType.int)) ∈ zT := zT_of 1304 (by decide +kernel) (by decide +kernel)
theorem zcc_142 : zCalA 142 0 true := ⟨⟨by decide +kernel, rfl, rfl⟩, zt_1304, rfl, zt_14, by decide +kernel, by decide +kernel, by decide +kernel⟩
theorem zt_1318 : (Cond.code ({ cls := "CordCartModel", name := "in", desc := "(III)Z" } : MethodName) prog_14_method_3_code (3 : Nat) (Option.some FieldType.boolean)) ∈ zT := zT_of 1318 (by decide +kernel) (by decide +kernel)
theorem zcc_143 : zCalA 143 3 true := ⟨⟨by decide +kernel, rfl, rfl⟩, zt_1318, rfl, zt_14, by decide +kernel, by decide +kernel, by decide +kernel⟩
theorem zt_1360 : (Cond.code ({ cls := "CordCartModel", name := "refuse", desc := "(I)I" } : MethodName) prog_14_method_4_code (2 : Nat) (Option.some FieldType.int)) ∈ zT := zT_of 1360 (by decide +kernel) (by decide +kernel)
theorem zcc_144 : zCalA 144 1 true := ⟨⟨by decide +kernel, rfl, rfl⟩, zt_1360, rfl, zt_14, by decide +kernel, by decide +kernel, by decide +kernel⟩
theorem zt_1308 : (Cond.code ({ cls := "CordCartModel", name := "begin", desc := "()I" } : MethodName) prog_14_method_5_code (2 : Nat) (Option.some FieldType.int)) ∈ zT := zT_of 1308 (by decide +kernel) (by decide +kernel)
theorem zcc_145 : zCalA 145 0 true := ⟨⟨by decide +kernel, rfl, rfl⟩, zt_1308, rfl, zt_14, by decide +kernel, by decide +kernel, by decide +kernel⟩
theorem zt_1315 : (Cond.code ({ cls := "CordCartModel", name := "isAxle", desc := "(I)Z" } : MethodName) prog_14_method_6_code (1 : Nat) (Option.some FieldType.boolean)) ∈ zT := zT_of 1315 (by decide +kernel) (by decide +kernel)
theorem zcc_146 : zCalA 146 1 true := ⟨⟨by decide +kernel, rfl, rfl⟩, zt_1315, rfl, zt_14, by decide +kernel, by decide +kernel, by decide +kernel⟩
theorem zt_1312 : (Cond.code ({ cls := "CordCartModel", name := "wind", desc := "(IIII)I" } : MethodName) prog_14_method_7_code (6 : Nat) (Option.some FieldType.int)) ∈ zT := zT_of 1312 (by decide +kernel) (by decide +kernel)
theorem zcc_147 : zCalA 147 4 true := ⟨⟨by decide +kernel, rfl, rfl⟩, zt_1312, rfl, zt_14, by decide +kernel, by decide +kernel, by decide +kernel⟩
theorem zt_1322 : (Cond.code ({ cls := "CordCartModel", name := "unwind", desc := "(I)I" } : MethodName) prog_14_method_8_code (3 : Nat) (Option.some FieldType.int)) ∈ zT := zT_of 1322 (by decide +kernel) (by decide +kernel)
theorem zcc_148 : zCalA 148 1 true := ⟨⟨by decide +kernel, rfl, rfl⟩, zt_1322, rfl, zt_14, by decide +kernel, by decide +kernel, by decide +kernel⟩
theorem zt_1326 : (Cond.code ({ cls := "CordCartModel", name := "segment", desc := "(III)I" } : MethodName) prog_14_method_9_code (5 : Nat) (Option.some FieldType.int)) ∈ zT := zT_of 1326 (by decide +kernel) (by decide +kernel)
theorem zcc_149 : zCalA 149 3 true := ⟨⟨by decide +kernel, rfl, rfl⟩, zt_1326, rfl, zt_14, by decide +kernel, by decide +kernel, by decide +kernel⟩
theorem zt_1330 : (Cond.code ({ cls := "CordCartModel", name := "hard", desc := "(I)I" } : MethodName) prog_14_method_10_code (3 : Nat) (Option.some FieldType.int)) ∈ zT := zT_of 1330 (by decide +kernel) (by decide +kernel)
theorem zcc_150 : zCalA 150 1 true := ⟨⟨by decide +kernel, rfl, rfl⟩, zt_1330, rfl, zt_14, by decide +kernel, by decide +kernel, by decide +kernel⟩
theorem zt_1338 : (Cond.code ({ cls := "CordCartModel", name := "pegAt", desc := "(I)I" } : MethodName) prog_14_method_11_code (3 : Nat) (Option.some FieldType.int)) ∈ zT := zT_of 1338 (by decide +kernel) (by decide +kernel)
theorem zcc_151 : zCalA 151 1 true := ⟨⟨by decide +kernel, rfl, rfl⟩, zt_1338, rfl, zt_14, by decide +kernel, by decide +kernel, by decide +kernel⟩
theorem zt_1334 : (Cond.code ({ cls := "CordCartModel", name := "peg", desc := "(II)I" } : MethodName) prog_14_method_12_code (4 : Nat) (Option.some FieldType.int)) ∈ zT := zT_of 1334 (by decide +kernel) (by decide +kernel)
theorem zcc_152 : zCalA 152 2 true := ⟨⟨by decide +kernel, rfl, rfl⟩, zt_1334, rfl, zt_14, by decide +kernel, by decide +kernel, by decide +kernel⟩
theorem zt_1345 : (Cond.code ({ cls := "CordCartModel", name := "isCell", desc := "(II)Z" } : MethodName) prog_14_method_13_code (2 : Nat) (Option.some FieldType.boolean)) ∈ zT := zT_of 1345 (by decide +kernel) (by decide +kernel)
theorem zcc_153 : zCalA 153 2 true := ⟨⟨by decide +kernel, rfl, rfl⟩, zt_1345, rfl, zt_14, by decide +kernel, by decide +kernel, by decide +kernel⟩
theorem zt_1342 : (Cond.code ({ cls := "CordCartModel", name := "start", desc := "(III)I" } : MethodName) prog_14_method_14_code (4 : Nat) (Option.some FieldType.int)) ∈ zT := zT_of 1342 (by decide +kernel) (by decide +kernel)
theorem zcc_154 : zCalA 154 3 true := ⟨⟨by decide +kernel, rfl, rfl⟩, zt_1342, rfl, zt_14, by decide +kernel, by decide +kernel, by decide +kernel⟩
theorem zt_1349 : (Cond.code ({ cls := "CordCartModel", name := "block", desc := "(II)I" } : MethodName) prog_14_method_15_code (3 : Nat) (Option.some FieldType.int)) ∈ zT := zT_of 1349 (by decide +kernel) (by decide +kernel)
theorem zcc_155 : zCalA 155 2 true := ⟨⟨by decide +kernel, rfl, rfl⟩, zt_1349, rfl, zt_14, by decide +kernel, by decide +kernel, by decide +kernel⟩
theorem zt_1353 : (Cond.code ({ cls := "CordCartModel", name := "sand", desc := "(II)I" } : MethodName) prog_14_method_16_code (7 : Nat) (Option.some FieldType.int)) ∈ zT := zT_of 1353 (by decide +kernel) (by decide +kernel)
theorem zcc_156 : zCalA 156 2 true := ⟨⟨by decide +kernel, rfl, rfl⟩, zt_1353, rfl, zt_14, by decide +kernel, by decide +kernel, by decide +kernel⟩
theorem zt_1365 : (Cond.code ({ cls := "CordCartModel", name := "hold", desc := "(I)I" } : MethodName) prog_14_method_17_code (3 : Nat) (Option.some FieldType.int)) ∈ zT := zT_of 1365 (by decide +kernel) (by decide +kernel)
theorem zcc_157 : zCalA 157 1 true := ⟨⟨by decide +kernel, rfl, rfl⟩, zt_1365, rfl, zt_14, by decide +kernel, by decide +kernel, by decide +kernel⟩
theorem zt_1369 : (Cond.code ({ cls := "CordCartModel", name := "fall", desc := "(I)I" } : MethodName) prog_14_method_18_code (3 : Nat) (Option.some FieldType.int)) ∈ zT := zT_of 1369 (by decide +kernel) (by decide +kernel)
theorem zcc_158 : zCalA 158 1 true := ⟨⟨by decide +kernel, rfl, rfl⟩, zt_1369, rfl, zt_14, by decide +kernel, by decide +kernel, by decide +kernel⟩
theorem zt_1373 : (Cond.code ({ cls := "CordCartModel", name := "cord", desc := "(I)I" } : MethodName) prog_14_method_19_code (4 : Nat) (Option.some FieldType.int)) ∈ zT := zT_of 1373 (by decide +kernel) (by decide +kernel)
theorem zcc_159 : zCalA 159 1 true := ⟨⟨by decide +kernel, rfl, rfl⟩, zt_1373, rfl, zt_14, by decide +kernel, by decide +kernel, by decide +kernel⟩
theorem zt_1381 : (Cond.code ({ cls := "CordCartModel", name := "unknowns", desc := "()I" } : MethodName) prog_14_method_20_code (4 : Nat) (Option.some FieldType.int)) ∈ zT := zT_of 1381 (by decide +kernel) (by decide +kernel)
theorem zcc_160 : zCalA 160 0 true := ⟨⟨by decide +kernel, rfl, rfl⟩, zt_1381, rfl, zt_14, by decide +kernel, by decide +kernel, by decide +kernel⟩
theorem zt_1385 : (Cond.code ({ cls := "CordCartModel", name := "sets", desc := "()V" } : MethodName) prog_14_method_21_code (2 : Nat) (Option.none : Option FieldType)) ∈ zT := zT_of 1385 (by decide +kernel) (by decide +kernel)
theorem zcc_161 : zCalA 161 0 true := ⟨⟨by decide +kernel, rfl, rfl⟩, zt_1385, rfl, zt_14, by decide +kernel, by decide +kernel, by decide +kernel⟩
theorem zt_1389 : (Cond.code ({ cls := "CordCartModel", name := "isOut", desc := "()Z" } : MethodName) prog_14_method_22_code (1 : Nat) (Option.some FieldType.boolean)) ∈ zT := zT_of 1389 (by decide +kernel) (by decide +kernel)
theorem zcc_162 : zCalA 162 0 true := ⟨⟨by decide +kernel, rfl, rfl⟩, zt_1389, rfl, zt_14, by decide +kernel, by decide +kernel, by decide +kernel⟩
theorem zt_1400 : (Cond.code ({ cls := "CordCartModel", name := "half", desc := "(IZ)I" } : MethodName) prog_14_method_23_code (8 : Nat) (Option.some FieldType.int)) ∈ zT := zT_of 1400 (by decide +kernel) (by decide +kernel)
theorem zcc_163 : zCalA 163 2 true := ⟨⟨by decide +kernel, rfl, rfl⟩, zt_1400, rfl, zt_14, by decide +kernel, by decide +kernel, by decide +kernel⟩
theorem zt_1393 : (Cond.code ({ cls := "CordCartModel", name := "falls", desc := "(Z)V" } : MethodName) prog_14_method_24_code (4 : Nat) (Option.none : Option FieldType)) ∈ zT := zT_of 1393 (by decide +kernel) (by decide +kernel)
theorem zcc_164 : zCalA 164 1 true := ⟨⟨by decide +kernel, rfl, rfl⟩, zt_1393, rfl, zt_14, by decide +kernel, by decide +kernel, by decide +kernel⟩
theorem zt_1397 : (Cond.code ({ cls := "CordCartModel", name := "slipsAt", desc := "(II)V" } : MethodName) prog_14_method_25_code (3 : Nat) (Option.none : Option FieldType)) ∈ zT := zT_of 1397 (by decide +kernel) (by decide +kernel)
theorem zcc_165 : zCalA 165 2 true := ⟨⟨by decide +kernel, rfl, rfl⟩, zt_1397, rfl, zt_14, by decide +kernel, by decide +kernel, by decide +kernel⟩
theorem zt_1407 : (Cond.code ({ cls := "CordCartModel", name := "cellOf", desc := "(I)I" } : MethodName) prog_14_method_26_code (2 : Nat) (Option.some FieldType.int)) ∈ zT := zT_of 1407 (by decide +kernel) (by decide +kernel)
theorem zcc_166 : zCalA 166 1 true := ⟨⟨by decide +kernel, rfl, rfl⟩, zt_1407, rfl, zt_14, by decide +kernel, by decide +kernel, by decide +kernel⟩
theorem zt_1411 : (Cond.code ({ cls := "CordCartModel", name := "isBad", desc := "()Z" } : MethodName) prog_14_method_27_code (3 : Nat) (Option.some FieldType.boolean)) ∈ zT := zT_of 1411 (by decide +kernel) (by decide +kernel)
theorem zcc_167 : zCalA 167 0 true := ⟨⟨by decide +kernel, rfl, rfl⟩, zt_1411, rfl, zt_14, by decide +kernel, by decide +kernel, by decide +kernel⟩
theorem zt_1404 : (Cond.code ({ cls := "CordCartModel", name := "notes", desc := "()V" } : MethodName) prog_14_method_28_code (2 : Nat) (Option.none : Option FieldType)) ∈ zT := zT_of 1404 (by decide +kernel) (by decide +kernel)
theorem zcc_168 : zCalA 168 0 true := ⟨⟨by decide +kernel, rfl, rfl⟩, zt_1404, rfl, zt_14, by decide +kernel, by decide +kernel, by decide +kernel⟩
theorem zt_1377 : (Cond.code ({ cls := "CordCartModel", name := "show", desc := "()I" } : MethodName) prog_14_method_29_code (5 : Nat) (Option.some FieldType.int)) ∈ zT := zT_of 1377 (by decide +kernel) (by decide +kernel)
theorem zcc_169 : zCalA 169 0 true := ⟨⟨by decide +kernel, rfl, rfl⟩, zt_1377, rfl, zt_14, by decide +kernel, by decide +kernel, by decide +kernel⟩
theorem zt_1415 : (Cond.code ({ cls := "CordCartModel", name := "pose", desc := "(I)I" } : MethodName) prog_14_method_30_code (2 : Nat) (Option.some FieldType.int)) ∈ zT := zT_of 1415 (by decide +kernel) (by decide +kernel)
theorem zcc_170 : zCalA 170 1 true := ⟨⟨by decide +kernel, rfl, rfl⟩, zt_1415, rfl, zt_14, by decide +kernel, by decide +kernel, by decide +kernel⟩
theorem zt_1419 : (Cond.code ({ cls := "CordCartModel", name := "acted", desc := "(II)I" } : MethodName) prog_14_method_31_code (3 : Nat) (Option.some FieldType.int)) ∈ zT := zT_of 1419 (by decide +kernel) (by decide +kernel)
theorem zcc_171 : zCalA 171 2 true := ⟨⟨by decide +kernel, rfl, rfl⟩, zt_1419, rfl, zt_14, by decide +kernel, by decide +kernel, by decide +kernel⟩
theorem zt_1423 : (Cond.code ({ cls := "CordCartModel", name := "slipped", desc := "(II)I" } : MethodName) prog_14_method_32_code (3 : Nat) (Option.some FieldType.int)) ∈ zT := zT_of 1423 (by decide +kernel) (by decide +kernel)
theorem zcc_172 : zCalA 172 2 true := ⟨⟨by decide +kernel, rfl, rfl⟩, zt_1423, rfl, zt_14, by decide +kernel, by decide +kernel, by decide +kernel⟩
theorem zt_1431 : (Cond.code ({ cls := "CordCartModel", name := "goes", desc := "(I)V" } : MethodName) prog_14_method_33_code (2 : Nat) (Option.none : Option FieldType)) ∈ zT := zT_of 1431 (by decide +kernel) (by decide +kernel)
theorem zcc_173 : zCalA 173 1 true := ⟨⟨by decide +kernel, rfl, rfl⟩, zt_1431, rfl, zt_14, by decide +kernel, by decide +kernel, by decide +kernel⟩
theorem zt_1427 : (Cond.code ({ cls := "CordCartModel", name := "where", desc := "(II)I" } : MethodName) prog_14_method_34_code (4 : Nat) (Option.some FieldType.int)) ∈ zT := zT_of 1427 (by decide +kernel) (by decide +kernel)
theorem zcc_174 : zCalA 174 2 true := ⟨⟨by decide +kernel, rfl, rfl⟩, zt_1427, rfl, zt_14, by decide +kernel, by decide +kernel, by decide +kernel⟩
theorem zt_1435 : (Cond.code ({ cls := "CordCartModel", name := "wish", desc := "(III)I" } : MethodName) prog_14_method_35_code (5 : Nat) (Option.some FieldType.int)) ∈ zT := zT_of 1435 (by decide +kernel) (by decide +kernel)
theorem zcc_175 : zCalA 175 3 true := ⟨⟨by decide +kernel, rfl, rfl⟩, zt_1435, rfl, zt_14, by decide +kernel, by decide +kernel, by decide +kernel⟩
theorem zt_1439 : (Cond.code ({ cls := "CordCartModel", name := "wishless", desc := "()I" } : MethodName) prog_14_method_36_code (2 : Nat) (Option.some FieldType.int)) ∈ zT := zT_of 1439 (by decide +kernel) (by decide +kernel)
theorem zcc_176 : zCalA 176 0 true := ⟨⟨by decide +kernel, rfl, rfl⟩, zt_1439, rfl, zt_14, by decide +kernel, by decide +kernel, by decide +kernel⟩
theorem zt_1458 : (Cond.code ({ cls := "CordCartModel", name := "aheadX", desc := "(I)I" } : MethodName) prog_14_method_37_code (1 : Nat) (Option.some FieldType.int)) ∈ zT := zT_of 1458 (by decide +kernel) (by decide +kernel)
theorem zcc_177 : zCalA 177 1 true := ⟨⟨by decide +kernel, rfl, rfl⟩, zt_1458, rfl, zt_14, by decide +kernel, by decide +kernel, by decide +kernel⟩
theorem zt_1461 : (Cond.code ({ cls := "CordCartModel", name := "aheadY", desc := "(I)I" } : MethodName) prog_14_method_38_code (1 : Nat) (Option.some FieldType.int)) ∈ zT := zT_of 1461 (by decide +kernel) (by decide +kernel)
theorem zcc_178 : zCalA 178 1 true := ⟨⟨by decide +kernel, rfl, rfl⟩, zt_1461, rfl, zt_14, by decide +kernel, by decide +kernel, by decide +kernel⟩
theorem zt_1451 : (Cond.code ({ cls := "CordCartModel", name := "isFree", desc := "(II)Z" } : MethodName) prog_14_method_39_code (3 : Nat) (Option.some FieldType.boolean)) ∈ zT := zT_of 1451 (by decide +kernel) (by decide +kernel)
theorem zcc_179 : zCalA 179 2 true := ⟨⟨by decide +kernel, rfl, rfl⟩, zt_1451, rfl, zt_14, by decide +kernel, by decide +kernel, by decide +kernel⟩
theorem zt_1455 : (Cond.code ({ cls := "CordCartModel", name := "moved", desc := "(II)I" } : MethodName) prog_14_method_40_code (9 : Nat) (Option.some FieldType.int)) ∈ zT := zT_of 1455 (by decide +kernel) (by decide +kernel)
theorem zcc_180 : zCalA 180 2 true := ⟨⟨by decide +kernel, rfl, rfl⟩, zt_1455, rfl, zt_14, by decide +kernel, by decide +kernel, by decide +kernel⟩
theorem zt_1465 : (Cond.code ({ cls := "CordCartModel", name := "price", desc := "(I)I" } : MethodName) prog_14_method_41_code (2 : Nat) (Option.some FieldType.int)) ∈ zT := zT_of 1465 (by decide +kernel) (by decide +kernel)
theorem zcc_181 : zCalA 181 1 true := ⟨⟨by decide +kernel, rfl, rfl⟩, zt_1465, rfl, zt_14, by decide +kernel, by decide +kernel, by decide +kernel⟩
theorem zt_1447 : (Cond.code ({ cls := "CordCartModel", name := "reckons", desc := "(II)V" } : MethodName) prog_14_method_42_code (7 : Nat) (Option.none : Option FieldType)) ∈ zT := zT_of 1447 (by decide +kernel) (by decide +kernel)
theorem zcc_182 : zCalA 182 2 true := ⟨⟨by decide +kernel, rfl, rfl⟩, zt_1447, rfl, zt_14, by decide +kernel, by decide +kernel, by decide +kernel⟩
theorem zt_1443 : (Cond.code ({ cls := "CordCartModel", name := "way", desc := "(IIIII)I" } : MethodName) prog_14_method_43_code (7 : Nat) (Option.some FieldType.int)) ∈ zT := zT_of 1443 (by decide +kernel) (by decide +kernel)
theorem zcc_183 : zCalA 183 5 true := ⟨⟨by decide +kernel, rfl, rfl⟩, zt_1443, rfl, zt_14, by decide +kernel, by decide +kernel, by decide +kernel⟩
theorem zt_1481 : (Cond.code ({ cls := "CordCartModel", name := "winds", desc := "(III)V" } : MethodName) prog_14_method_44_code (8 : Nat) (Option.none : Option FieldType)) ∈ zT := zT_of 1481 (by decide +kernel) (by decide +kernel)
theorem zcc_184 : zCalA 184 3 true := ⟨⟨by decide +kernel, rfl, rfl⟩, zt_1481, rfl, zt_14, by decide +kernel, by decide +kernel, by decide +kernel⟩
theorem zt_1477 : (Cond.code ({ cls := "CordCartModel", name := "windsAll", desc := "(IIII)V" } : MethodName) prog_14_method_45_code (5 : Nat) (Option.none : Option FieldType)) ∈ zT := zT_of 1477 (by decide +kernel) (by decide +kernel)
theorem zcc_185 : zCalA 185 4 true := ⟨⟨by decide +kernel, rfl, rfl⟩, zt_1477, rfl, zt_14, by decide +kernel, by decide +kernel, by decide +kernel⟩
theorem zt_1485 : (Cond.code ({ cls := "CordCartModel", name := "turnsTo", desc := "(Z)V" } : MethodName) prog_14_method_46_code (2 : Nat) (Option.none : Option FieldType)) ∈ zT := zT_of 1485 (by decide +kernel) (by decide +kernel)
theorem zcc_186 : zCalA 186 1 true := ⟨⟨by decide +kernel, rfl, rfl⟩, zt_1485, rfl, zt_14, by decide +kernel, by decide +kernel, by decide +kernel⟩
theorem zt_1473 : (Cond.code ({ cls := "CordCartModel", name := "makes", desc := "()I" } : MethodName) prog_14_method_47_code (4 : Nat) (Option.some FieldType.int)) ∈ zT := zT_of 1473 (by decide +kernel) (by decide +kernel)
theorem zcc_187 : zCalA 187 0 true := ⟨⟨by decide +kernel, rfl, rfl⟩, zt_1473, rfl, zt_14, by decide +kernel, by decide +kernel, by decide +kernel⟩
theorem zt_1469 : (Cond.code ({ cls := "CordCartModel", name := "make", desc := "()I" } : MethodName) prog_14_method_48_code (4 : Nat) (Option.some FieldType.int)) ∈ zT := zT_of 1469 (by decide +kernel) (by decide +kernel)
theorem zcc_188 : zCalA 188 0 true := ⟨⟨by decide +kernel, rfl, rfl⟩, zt_1469, rfl, zt_14, by decide +kernel, by decide +kernel, by decide +kernel⟩
theorem zt_1489 : (Cond.code ({ cls := "CordCartModel", name := "reads", desc := "()I" } : MethodName) prog_14_method_49_code (5 : Nat) (Option.some FieldType.int)) ∈ zT := zT_of 1489 (by decide +kernel) (by decide +kernel)
theorem zcc_189 : zCalA 189 0 true := ⟨⟨by decide +kernel, rfl, rfl⟩, zt_1489, rfl, zt_14, by decide +kernel, by decide +kernel, by decide +kernel⟩
theorem zt_1493 : (Cond.code ({ cls := "CordCartModel", name := "spot", desc := "(III)I" } : MethodName) prog_14_method_50_code (5 : Nat) (Option.some FieldType.int)) ∈ zT := zT_of 1493 (by decide +kernel) (by decide +kernel)
theorem zcc_190 : zCalA 190 3 true := ⟨⟨by decide +kernel, rfl, rfl⟩, zt_1493, rfl, zt_14, by decide +kernel, by decide +kernel, by decide +kernel⟩
theorem zt_1497 : (Cond.code ({ cls := "CordCartModel", name := "spotless", desc := "()I" } : MethodName) prog_14_method_51_code (2 : Nat) (Option.some FieldType.int)) ∈ zT := zT_of 1497 (by decide +kernel) (by decide +kernel)
theorem zcc_191 : zCalA 191 0 true := ⟨⟨by decide +kernel, rfl, rfl⟩, zt_1497, rfl, zt_14, by decide +kernel, by decide +kernel, by decide +kernel⟩
theorem zt_1505 : (Cond.code ({ cls := "CordCartModel", name := "misses", desc := "(Z)I" } : MethodName) prog_14_method_52_code (4 : Nat) (Option.some FieldType.int)) ∈ zT := zT_of 1505 (by decide +kernel) (by decide +kernel)
theorem zcc_192 : zCalA 192 1 true := ⟨⟨by decide +kernel, rfl, rfl⟩, zt_1505, rfl, zt_14, by decide +kernel, by decide +kernel, by decide +kernel⟩
theorem zt_1501 : (Cond.code ({ cls := "CordCartModel", name := "miss", desc := "()I" } : MethodName) prog_14_method_53_code (1 : Nat) (Option.some FieldType.int)) ∈ zT := zT_of 1501 (by decide +kernel) (by decide +kernel)
theorem zcc_193 : zCalA 193 0 true := ⟨⟨by decide +kernel, rfl, rfl⟩, zt_1501, rfl, zt_14, by decide +kernel, by decide +kernel, by decide +kernel⟩
theorem zt_1512 : (Cond.code ({ cls := "CordCartModel", name := "power", desc := "(I)I" } : MethodName) prog_14_method_54_code (3 : Nat) (Option.some FieldType.int)) ∈ zT := zT_of 1512 (by decide +kernel) (by decide +kernel)
theorem zcc_194 : zCalA 194 1 true := ⟨⟨by decide +kernel, rfl, rfl⟩, zt_1512, rfl, zt_14, by decide +kernel, by decide +kernel, by decide +kernel⟩
theorem zt_1520 : (Cond.code ({ cls := "CordCartModel", name := "fills", desc := "([II)V" } : MethodName) prog_14_method_55_code (6 : Nat) (Option.none : Option FieldType)) ∈ zT := zT_of 1520 (by decide +kernel) (by decide +kernel)
theorem zcc_195 : zCalA 195 2 true := ⟨⟨by decide +kernel, rfl, rfl⟩, zt_1520, rfl, zt_14, by decide +kernel, by decide +kernel, by decide +kernel⟩
theorem zt_1516 : (Cond.code ({ cls := "CordCartModel", name := "agrees", desc := "(I)Z" } : MethodName) prog_14_method_56_code (2 : Nat) (Option.some FieldType.boolean)) ∈ zT := zT_of 1516 (by decide +kernel) (by decide +kernel)
theorem zcc_196 : zCalA 196 1 true := ⟨⟨by decide +kernel, rfl, rfl⟩, zt_1516, rfl, zt_14, by decide +kernel, by decide +kernel, by decide +kernel⟩
theorem zt_1509 : (Cond.code ({ cls := "CordCartModel", name := "fillings", desc := "()I" } : MethodName) prog_14_method_57_code (4 : Nat) (Option.some FieldType.int)) ∈ zT := zT_of 1509 (by decide +kernel) (by decide +kernel)
theorem zcc_197 : zCalA 197 0 true := ⟨⟨by decide +kernel, rfl, rfl⟩, zt_1509, rfl, zt_14, by decide +kernel, by decide +kernel, by decide +kernel⟩
theorem zt_1524 : (Cond.code ({ cls := "CordCartModel", name := "filling", desc := "(I)I" } : MethodName) prog_14_method_58_code (5 : Nat) (Option.some FieldType.int)) ∈ zT := zT_of 1524 (by decide +kernel) (by decide +kernel)
theorem zcc_198 : zCalA 198 1 true := ⟨⟨by decide +kernel, rfl, rfl⟩, zt_1524, rfl, zt_14, by decide +kernel, by decide +kernel, by decide +kernel⟩
theorem zt_1528 : (Cond.code ({ cls := "CordCartModel", name := "fill", desc := "(I)I" } : MethodName) prog_14_method_59_code (4 : Nat) (Option.some FieldType.int)) ∈ zT := zT_of 1528 (by decide +kernel) (by decide +kernel)
theorem zcc_199 : zCalA 199 1 true := ⟨⟨by decide +kernel, rfl, rfl⟩, zt_1528, rfl, zt_14, by decide +kernel, by decide +kernel, by decide +kernel⟩
theorem zt_1540 : (Cond.code ({ cls := "CordCartModel", name := "slipsIn", desc := "(I)I" } : MethodName) prog_14_method_60_code (2 : Nat) (Option.some FieldType.int)) ∈ zT := zT_of 1540 (by decide +kernel) (by decide +kernel)
theorem zcc_200 : zCalA 200 1 true := ⟨⟨by decide +kernel, rfl, rfl⟩, zt_1540, rfl, zt_14, by decide +kernel, by decide +kernel, by decide +kernel⟩
theorem zt_1536 : (Cond.code ({ cls := "CordCartModel", name := "allSlips", desc := "()I" } : MethodName) prog_14_method_61_code (1 : Nat) (Option.some FieldType.int)) ∈ zT := zT_of 1536 (by decide +kernel) (by decide +kernel)
theorem zcc_201 : zCalA 201 0 true := ⟨⟨by decide +kernel, rfl, rfl⟩, zt_1536, rfl, zt_14, by decide +kernel, by decide +kernel, by decide +kernel⟩
theorem zt_1548 : (Cond.code ({ cls := "CordCartModel", name := "spotOf", desc := "(I)I" } : MethodName) prog_14_method_62_code (4 : Nat) (Option.some FieldType.int)) ∈ zT := zT_of 1548 (by decide +kernel) (by decide +kernel)
theorem zcc_202 : zCalA 202 1 true := ⟨⟨by decide +kernel, rfl, rfl⟩, zt_1548, rfl, zt_14, by decide +kernel, by decide +kernel, by decide +kernel⟩
theorem zt_1544 : (Cond.code ({ cls := "CordCartModel", name := "explains", desc := "(II)Z" } : MethodName) prog_14_method_63_code (3 : Nat) (Option.some FieldType.boolean)) ∈ zT := zT_of 1544 (by decide +kernel) (by decide +kernel)
theorem zcc_203 : zCalA 203 2 true := ⟨⟨by decide +kernel, rfl, rfl⟩, zt_1544, rfl, zt_14, by decide +kernel, by decide +kernel, by decide +kernel⟩
theorem zt_1532 : (Cond.code ({ cls := "CordCartModel", name := "slips", desc := "()I" } : MethodName) prog_14_method_64_code (3 : Nat) (Option.some FieldType.int)) ∈ zT := zT_of 1532 (by decide +kernel) (by decide +kernel)
theorem zcc_204 : zCalA 204 0 true := ⟨⟨by decide +kernel, rfl, rfl⟩, zt_1532, rfl, zt_14, by decide +kernel, by decide +kernel, by decide +kernel⟩
theorem zt_1552 : (Cond.code ({ cls := "CordCartModel", name := "slip", desc := "(I)I" } : MethodName) prog_14_method_65_code (4 : Nat) (Option.some FieldType.int)) ∈ zT := zT_of 1552 (by decide +kernel) (by decide +kernel)
theorem zcc_205 : zCalA 205 1 true := ⟨⟨by decide +kernel, rfl, rfl⟩, zt_1552, rfl, zt_14, by decide +kernel, by decide +kernel, by decide +kernel⟩
theorem zt_1556 : (Cond.code ({ cls := "CordCartModel", name := "pair", desc := "()I" } : MethodName) prog_14_method_66_code (3 : Nat) (Option.some FieldType.int)) ∈ zT := zT_of 1556 (by decide +kernel) (by decide +kernel)
theorem zcc_206 : zCalA 206 0 true := ⟨⟨by decide +kernel, rfl, rfl⟩, zt_1556, rfl, zt_14, by decide +kernel, by decide +kernel, by decide +kernel⟩
theorem zt_1356 : (Cond.code ({ cls := "CordCartModel", name := "isTape", desc := "(I)Z" } : MethodName) prog_14_method_67_code (1 : Nat) (Option.some FieldType.boolean)) ∈ zT := zT_of 1356 (by decide +kernel) (by decide +kernel)
theorem zcc_207 : zCalA 207 1 true := ⟨⟨by decide +kernel, rfl, rfl⟩, zt_1356, rfl, zt_14, by decide +kernel, by decide +kernel, by decide +kernel⟩
theorem zt_1560 : (Cond.code ({ cls := "CordCartModel", name := "tape", desc := "(III)I" } : MethodName) prog_14_method_68_code (5 : Nat) (Option.some FieldType.int)) ∈ zT := zT_of 1560 (by decide +kernel) (by decide +kernel)
theorem zcc_208 : zCalA 208 3 true := ⟨⟨by decide +kernel, rfl, rfl⟩, zt_1560, rfl, zt_14, by decide +kernel, by decide +kernel, by decide +kernel⟩
theorem zt_1568 : (Cond.code ({ cls := "CordCartModel", name := "all", desc := "()I" } : MethodName) prog_14_method_69_code (1 : Nat) (Option.some FieldType.int)) ∈ zT := zT_of 1568 (by decide +kernel) (by decide +kernel)
theorem zcc_209 : zCalA 209 0 true := ⟨⟨by decide +kernel, rfl, rfl⟩, zt_1568, rfl, zt_14, by decide +kernel, by decide +kernel, by decide +kernel⟩
theorem zt_1564 : (Cond.code ({ cls := "CordCartModel", name := "keep", desc := "(I)I" } : MethodName) prog_14_method_70_code (3 : Nat) (Option.some FieldType.int)) ∈ zT := zT_of 1564 (by decide +kernel) (by decide +kernel)
theorem zcc_210 : zCalA 210 1 true := ⟨⟨by decide +kernel, rfl, rfl⟩, zt_1564, rfl, zt_14, by decide +kernel, by decide +kernel, by decide +kernel⟩
theorem zt_1576 : (Cond.code ({ cls := "CordCartModel", name := "lacks", desc := "(I)I" } : MethodName) prog_14_method_71_code (2 : Nat) (Option.some FieldType.int)) ∈ zT := zT_of 1576 (by decide +kernel) (by decide +kernel)
theorem zcc_211 : zCalA 211 1 true := ⟨⟨by decide +kernel, rfl, rfl⟩, zt_1576, rfl, zt_14, by decide +kernel, by decide +kernel, by decide +kernel⟩
theorem zt_1572 : (Cond.code ({ cls := "CordCartModel", name := "back", desc := "(I)I" } : MethodName) prog_14_method_72_code (4 : Nat) (Option.some FieldType.int)) ∈ zT := zT_of 1572 (by decide +kernel) (by decide +kernel)
theorem zcc_212 : zCalA 212 1 true := ⟨⟨by decide +kernel, rfl, rfl⟩, zt_1572, rfl, zt_14, by decide +kernel, by decide +kernel, by decide +kernel⟩
theorem zt_1580 : (Cond.code ({ cls := "CordCartModel", name := "toss", desc := "(I)I" } : MethodName) prog_14_method_73_code (6 : Nat) (Option.some FieldType.int)) ∈ zT := zT_of 1580 (by decide +kernel) (by decide +kernel)
theorem zcc_213 : zCalA 213 1 true := ⟨⟨by decide +kernel, rfl, rfl⟩, zt_1580, rfl, zt_14, by decide +kernel, by decide +kernel, by decide +kernel⟩
theorem zt_1584 : (Cond.code ({ cls := "CordCartModel", name := "clear", desc := "(I)I" } : MethodName) prog_14_method_74_code (3 : Nat) (Option.some FieldType.int)) ∈ zT := zT_of 1584 (by decide +kernel) (by decide +kernel)
theorem zcc_214 : zCalA 214 1 true := ⟨⟨by decide +kernel, rfl, rfl⟩, zt_1584, rfl, zt_14, by decide +kernel, by decide +kernel, by decide +kernel⟩
theorem zt_1591 : (Cond.code ({ cls := "CordCartModel", name := "narrowed", desc := "(IJ)J" } : MethodName) prog_14_method_75_code (3 : Nat) (Option.some FieldType.long)) ∈ zT := zT_of 1591 (by decide +kernel) (by decide +kernel)
theorem zcc_215 : zCalA 215 2 true := ⟨⟨by decide +kernel, rfl, rfl⟩, zt_1591, rfl, zt_14, by decide +kernel, by decide +kernel, by decide +kernel⟩
theorem zt_1588 : (Cond.code ({ cls := "CordCartModel", name := "put", desc := "(IIJ)I" } : MethodName) prog_14_method_76_code (5 : Nat) (Option.some FieldType.int)) ∈ zT := zT_of 1588 (by decide +kernel) (by decide +kernel)
theorem zcc_216 : zCalA 216 3 true := ⟨⟨by decide +kernel, rfl, rfl⟩, zt_1588, rfl, zt_14, by decide +kernel, by decide +kernel, by decide +kernel⟩
theorem zt_1595 : (Cond.code ({ cls := "CordCartModel", name := "at", desc := "(II)J" } : MethodName) prog_14_method_77_code (3 : Nat) (Option.some FieldType.long)) ∈ zT := zT_of 1595 (by decide +kernel) (by decide +kernel)
theorem zcc_217 : zCalA 217 2 true := ⟨⟨by decide +kernel, rfl, rfl⟩, zt_1595, rfl, zt_14, by decide +kernel, by decide +kernel, by decide +kernel⟩
theorem zt_1599 : (Cond.code ({ cls := "CordCartModel", name := "copy", desc := "(IIIII)I" } : MethodName) prog_14_method_78_code (7 : Nat) (Option.some FieldType.int)) ∈ zT := zT_of 1599 (by decide +kernel) (by decide +kernel)
theorem zcc_218 : zCalA 218 5 true := ⟨⟨by decide +kernel, rfl, rfl⟩, zt_1599, rfl, zt_14, by decide +kernel, by decide +kernel, by decide +kernel⟩
theorem zt_1603 : (Cond.code ({ cls := "CordCartModel", name := "count", desc := "(I)I" } : MethodName) prog_14_method_79_code (4 : Nat) (Option.some FieldType.int)) ∈ zT := zT_of 1603 (by decide +kernel) (by decide +kernel)
theorem zcc_219 : zCalA 219 1 true := ⟨⟨by decide +kernel, rfl, rfl⟩, zt_1603, rfl, zt_14, by decide +kernel, by decide +kernel, by decide +kernel⟩
theorem zt_15 : (Cond.initialized "java/lang/Math") ∈ zT := zT_of 15 (by decide +kernel) (by decide +kernel)
theorem zt_639 : (Cond.code ({ cls := "java/lang/Math", name := "floorDiv", desc := "(II)I" } : MethodName) prog_18_method_47_code (3 : Nat) (Option.some FieldType.int)) ∈ zT := zT_of 639 (by decide +kernel) (by decide +kernel)
theorem zcc_220 : zCalA 220 2 true := ⟨⟨by decide +kernel, rfl, rfl⟩, zt_639, rfl, zt_15, by decide +kernel, by decide +kernel, by decide +kernel⟩
theorem zt_531 : (Cond.code ({ cls := "java/lang/Math", name := "min", desc := "(II)I" } : MethodName) prog_18_method_69_code (2 : Nat) (Option.some FieldType.int)) ∈ zT := zT_of 531 (by decide +kernel) (by decide +kernel)
theorem zcc_221 : zCalA 221 2 true := ⟨⟨by decide +kernel, rfl, rfl⟩, zt_531, rfl, zt_15, by decide +kernel, by decide +kernel, by decide +kernel⟩
theorem zt_13 : (Cond.initialized "java/util/Arrays") ∈ zT := zT_of 13 (by decide +kernel) (by decide +kernel)
theorem zt_904 : (Cond.code ({ cls := "java/util/Arrays", name := "fill", desc := "([JJ)V" } : MethodName) prog_23_method_101_code (5 : Nat) (Option.none : Option FieldType)) ∈ zT := zT_of 904 (by decide +kernel) (by decide +kernel)
theorem zcc_222 : zCalA 222 2 true := ⟨⟨by decide +kernel, rfl, rfl⟩, zt_904, rfl, zt_13, by decide +kernel, by decide +kernel, by decide +kernel⟩
theorem zt_399 : (Cond.code ({ cls := "java/util/Arrays", name := "fill", desc := "([II)V" } : MethodName) prog_23_method_103_code (4 : Nat) (Option.none : Option FieldType)) ∈ zT := zT_of 399 (by decide +kernel) (by decide +kernel)
theorem zcc_223 : zCalA 223 2 true := ⟨⟨by decide +kernel, rfl, rfl⟩, zt_399, rfl, zt_13, by decide +kernel, by decide +kernel, by decide +kernel⟩
theorem zt_0 : (Cond.initialized "CordCartLaw") ∈ zT := zT_of 0 (by decide +kernel) (by decide +kernel)
theorem zt_1034 : (Cond.codeWith ({ cls := "CordCartLaw", name := "pose", desc := "(LCordCart;I[J)I" } : MethodName) method_3_code (4 : Nat) (Option.some FieldType.int) [((0 : Nat), (9 : Nat), (12 : Nat), (13 : Nat)), ((0 : Nat), (9 : Nat), (15 : Nat), (15 : Nat))]) ∈ zT := zT_of 1034 (by decide +kernel) (by decide +kernel)
theorem zcc_224 : zCalA 224 3 false := ⟨⟨by decide +kernel, rfl, rfl⟩, zt_1034, rfl, zt_0, by decide +kernel, by decide +kernel, by decide +kernel⟩
theorem zt_1065 : (Cond.codeWith ({ cls := "CordCartLaw", name := "acted", desc := "(LCordCart;II[J)I" } : MethodName) method_4_code (5 : Nat) (Option.some FieldType.int) [((0 : Nat), (10 : Nat), (13 : Nat), (13 : Nat)), ((0 : Nat), (10 : Nat), (17 : Nat), (15 : Nat))]) ∈ zT := zT_of 1065 (by decide +kernel) (by decide +kernel)
theorem zcc_225 : zCalA 225 4 false := ⟨⟨by decide +kernel, rfl, rfl⟩, zt_1065, rfl, zt_0, by decide +kernel, by decide +kernel, by decide +kernel⟩
theorem zt_1074 : (Cond.codeWith ({ cls := "CordCartLaw", name := "where", desc := "(LCordCart;II[J)I" } : MethodName) method_5_code (5 : Nat) (Option.some FieldType.int) [((0 : Nat), (10 : Nat), (13 : Nat), (13 : Nat)), ((0 : Nat), (10 : Nat), (17 : Nat), (15 : Nat))]) ∈ zT := zT_of 1074 (by decide +kernel) (by decide +kernel)
theorem zcc_226 : zCalA 226 4 false := ⟨⟨by decide +kernel, rfl, rfl⟩, zt_1074, rfl, zt_0, by decide +kernel, by decide +kernel, by decide +kernel⟩
theorem zt_1086 : (Cond.codeWith ({ cls := "CordCartLaw", name := "at", desc := "(LCordCart;II[J)I" } : MethodName) method_6_code (5 : Nat) (Option.some FieldType.int) [((0 : Nat), (9 : Nat), (12 : Nat), (13 : Nat)), ((0 : Nat), (9 : Nat), (16 : Nat), (15 : Nat))]) ∈ zT := zT_of 1086 (by decide +kernel) (by decide +kernel)
theorem zcc_227 : zCalA 227 4 false := ⟨⟨by decide +kernel, rfl, rfl⟩, zt_1086, rfl, zt_0, by decide +kernel, by decide +kernel, by decide +kernel⟩
theorem zthw_0 : zThW RX0 57 61 59 2 "the cart is not whole" := ⟨zt_937, zt_21, by decide +kernel, by decide +kernel, by decide +kernel, by decide +kernel, by decide +kernel⟩
theorem zthw_1 : zThW RX11 184 188 186 1 "no such part of a pose" := ⟨zt_1041, zt_20, by decide +kernel, by decide +kernel, by decide +kernel, by decide +kernel, by decide +kernel⟩
theorem zthw_2 : zThW RX11 195 199 197 2 "no show is kept" := ⟨zt_931, zt_21, by decide +kernel, by decide +kernel, by decide +kernel, by decide +kernel, by decide +kernel⟩
theorem zthw_3 : zThW RX11 184 188 218 1 "no such part of an act" := ⟨zt_1041, zt_20, by decide +kernel, by decide +kernel, by decide +kernel, by decide +kernel, by decide +kernel⟩
theorem zthw_4 : zThW RX11 195 199 220 2 "no such act is noted" := ⟨zt_931, zt_21, by decide +kernel, by decide +kernel, by decide +kernel, by decide +kernel, by decide +kernel⟩
theorem zthw_5 : zThW RX11 184 188 235 1 "no such part of a pose, or no such unit" := ⟨zt_1041, zt_20, by decide +kernel, by decide +kernel, by decide +kernel, by decide +kernel, by decide +kernel⟩
theorem zthw_6 : zThW RX11 195 199 237 2 "the cords are not whole" := ⟨zt_931, zt_21, by decide +kernel, by decide +kernel, by decide +kernel, by decide +kernel, by decide +kernel⟩
theorem zthw_7 : zThW RX11 184 188 328 1 "no such tape" := ⟨zt_1041, zt_20, by decide +kernel, by decide +kernel, by decide +kernel, by decide +kernel, by decide +kernel⟩
theorem zthw_8 : zThW RX11 195 199 330 2 "no row, or no such place in it" := ⟨zt_931, zt_21, by decide +kernel, by decide +kernel, by decide +kernel, by decide +kernel, by decide +kernel⟩
