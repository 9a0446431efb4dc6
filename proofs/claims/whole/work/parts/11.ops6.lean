/-! THE OPERATIONS AGAINST THE INSTRUCTIONS: arrays of arrays, copies, Object's constructor -/
section SO6
variable {l : Launch} {D : va_G} {γ : Nat → ClassId} {τ : Nat → Nat} {L : Nat} {xs : Nat → Int32} {k i pc : Nat} {B : ByteArray} {P : List Nat}
def zups (ρ : Nat → Nat) (n q : Nat) (r : Nat → Nat) : Nat → Nat := fun x => if x < n then ρ x else if x = n then q else r (x - n - 1)
theorem zWd_mul {A : Nat → Prop} {ρ : Nat → Nat} {K : List (Nat × Nat)} {M : zM} {H H1 : Heap} {n w : Int} {q : Nat} {r : Nat → Nat} (hn : 0 ≤ n) (hW : zWd D γ L xs A ρ K M H)
    (hP : va_P D vwCl ((zwl γ ρ K M ++ [(q, .inl (γ 5, n.toNat, .inr (.inr (.inr (.inr (fun i => if i < n.toNat then some (r i) else none))))))]) ++ (List.range n.toNat).map (fun t => (r t, zcell γ ρ (0, w.toNat) (fun _ => 0)))) H1)
    (hD : va_D A ((zwl γ ρ K M ++ [(q, .inl (γ 5, n.toNat, .inr (.inr (.inr (.inr (fun i => if i < n.toNat then some (r i) else none))))))]) ++ (List.range n.toNat).map (fun t => (r t, zcell γ ρ (0, w.toNat) (fun _ => 0))))) :
    zWd D γ L xs A (zups ρ K.length q r) (K ++ (5, n.toNat) :: List.replicate n.toNat (0, w.toNat)) (zmul M ((K.length : Int) + 1) n) H1 := by
  have hr : ∀ x, x < K.length → zups ρ K.length q r x = ρ x := fun x hx => by unfold zups; rw [if_pos hx]
  have hM1 : ∀ (x y : Int), 1 ≤ x → x ≤ (K.length : Int) → zmul M ((K.length : Int) + 1) n x y = M x y := fun x y h1 h2 => by
    unfold zmul
    rw [if_neg (by omega), if_neg (by omega)]
  have e : zwl γ (zups ρ K.length q r) (K ++ (5, n.toNat) :: List.replicate n.toNat (0, w.toNat)) (zmul M ((K.length : Int) + 1) n) = (zwl γ ρ K M ++ [(q, .inl (γ 5, n.toNat, .inr (.inr (.inr (.inr (fun i => if i < n.toNat then some (r i) else none))))))]) ++ (List.range n.toNat).map (fun t => (r t, zcell γ ρ (0, w.toNat) (fun _ => 0))) := by
    rw [zwl_ext hW.2.2.1 hr hM1, List.append_assoc]
    congr 1
    apply List.ext_getElem?
    intro j
    cases j with
    | zero =>
      rw [zrng_at (by simp), List.getElem?_append_left (by simp)]
      show some (zups ρ K.length q r (K.length + 0), zcell γ _ (5, n.toNat) _) = some (q, _)
      have e1 : zups ρ K.length q r (K.length + 0) = q := by
        unfold zups
        rw [Nat.add_zero, if_neg (by omega), if_pos rfl]
      rw [e1]
      congr 2
      show (Sum.inl (γ 5, n.toNat, Sum.inr (Sum.inr (Sum.inr (Sum.inr (fun j : Nat => if j < n.toNat then zrf (zups ρ K.length q r) (zmul M ((K.length : Int) + 1) n (((K.length + 0 : Nat) : Int) + 1) j) else none))))) : va_E) = _
      congr 7
      funext j
      by_cases hj : j < n.toNat
      · rw [if_pos hj, if_pos hj]
        unfold zmul
        rw [if_pos (by simp), if_pos (by omega)]
        unfold zrf
        rw [if_neg (by omega)]
        congr 1
        unfold zups
        have e3 : ((K.length : Int) + 1 + 1 + (j : Int) - 1).toNat = K.length + 1 + j := by omega
        rw [e3, if_neg (by omega), if_neg (by omega)]
        congr 1
        omega
      · rw [if_neg hj, if_neg hj]
    | succ j =>
      by_cases hj : j < n.toNat
      · rw [zrng_at (by simp; omega), List.getElem?_append_right (by simp)]
        rw [show j + 1 - [(q, (Sum.inl (γ 5, n.toNat, .inr (.inr (.inr (.inr (fun i => if i < n.toNat then some (r i) else none))))) : va_E))].length = j by simp, zrng_at hj]
        congr 2
        · unfold zups
          rw [if_neg (by omega), if_neg (by omega)]
          congr 1
          omega
        · have e4 : ((5, n.toNat) :: List.replicate n.toNat (0, w.toNat)).getD (j + 1) (99, 0) = (0, w.toNat) := by
            rw [List.getD_cons_succ, List.getD_eq_getElem?_getD, List.getElem?_replicate, if_pos hj]
            rfl
          rw [e4]
          show Sum.inl (γ 0, w.toNat, Sum.inl _) = Sum.inl (γ 0, w.toNat, Sum.inl _)
          congr 4
          funext y
          unfold zmul
          dsimp only
          rw [if_neg (by omega), if_pos (by omega)]
      · rw [List.getElem?_eq_none (by simp; omega), List.getElem?_eq_none (by simp; omega)]
  refine ⟨by rw [e]; exact hP, by rw [e]; exact hD, hW.2.2.1.app hM1 ?_, ?_, fun y hy => ?_⟩
  · intro t kd' ht j hj
    cases t with
    | zero =>
      cases ht
      refine ⟨fun q => (by cases q), fun q => (by cases q), fun _ => ?_⟩
      have hj : j < n.toNat := hj
      unfold zmul
      rw [if_pos (by simp), if_pos (by omega)]
      simp only [List.length_cons, List.length_replicate]
      omega
    | succ t =>
      have ht' : (List.replicate n.toNat (0, w.toNat))[t]? = some kd' := by simpa using ht
      rw [List.getElem?_replicate] at ht'
      split at ht'
      · rename_i htn
        cases ht'
        unfold zmul
        rw [if_neg (by omega), if_pos (by omega)]
        exact ⟨fun _ => by decide, fun _ => by decide, fun _ => by omega⟩
      · cases ht'
  · unfold zmul
    rw [if_neg (by omega), if_neg (by omega)]; exact hW.2.2.2.1
  · unfold zmul
    rw [if_neg (by omega), if_neg (by omega)]; exact hW.2.2.2.2 y hy
theorem so_mnew {idx : Nat} {own : String} (hp : P[i]? = some pc) (hq : P[i + 1]? = some (pc + 4)) (hd : decode B pc = .ok (.multianewarray idx 2, 4)) (ho : zow k = own) (hw : Cond.classLink own idx "[[I" ∈ zT ∧ Cond.arrayClass .int ∈ zT) : zSO l D γ τ L xs k B P i zo_mnew := by
  intro hB hP F hF st lo M X r M' X' h
  unfold zo_mnew at h
  split at h
  · rename_i w n st
    obtain ⟨⟨hn0, hn1, hw0, hw1, hc1, hc2⟩, h9⟩ := zg_some h
    clear h
    refine (hF _ _ _ _ _ _ _ _ _ h9).alloc (T := (5, n.toNat) :: List.replicate n.toNat (0, w.toNat)) (dc := 1 + n.toNat) (ds := n.toNat + n.toNat * w.toNat) rfl (by show X.2.1 - (1 + n.toNat) + (1 + n.toNat) = _; omega) (by show X.2.2 - (n.toNat + n.toNat * w.toNat) + (n.toNat + n.toNat * w.toNat) = _; omega) ?_ ?_
    · intro h
      show zsOK (X.1 ++ _).length _
      rw [List.length_append]
      exact zsOK.mk (.of2 ⟨by omega, by simp only [List.length_cons, List.length_replicate]; omega⟩) (h.cons.2.cons.2.mono (by omega))
    rintro p e R s m args below meth c A ⟨⟨hx, hb, hml, hown, hts, -⟩, hPer, hA⟩ ρ H locs ls hW hS hL hs cells slots Q hcc hss kk
    rw [zpc_of hP hp]; rw [zpc_of hP hq] at kk
    rw [ho] at hown
    have hwi : zI w := hs.cons.1.gi
    have hn : zI n := hs.cons.2.cons.1.gi
    have hbytes : w.toNat * componentBytes .int ≤ 536870912 := by
      have : componentBytes .int ≤ 8 := by decide
      exact Nat.le_trans (Nat.mul_le_mul_left _ this) (by omega)
    have hcy : s.vm.findClass (FieldType.array .int).toString = some (γ 0) := zra_tl (t := 0) (by decide) hPer.1
    refine va_mna (X := zwl γ ρ X.1 M) (L := []) (f := fun _ => zcell γ ρ (0, w.toNat) (fun _ => 0)) (ty := .int) (N' := n.toNat) (K' := w.toNat) (z := (w.toNat, .inl (fun _ => 0))) hx (hb.trans hB) hown (hts _ hw.1) hPer.2.2.2.2.1.2.2 (hts _ hw.2) hcy hPer.1 (by simpa [va_pl] using hW.1) (by simpa [va_pl] using hW.2.1) hS hA
      (by rw [z32z, z32lt hn (by decide)]; omega) (by rw [z32z, z32lt hwi (by decide)]; omega) (zcl' hn hn0) (zcl' hwi hw0) (by omega) hbytes (by omega) (by decide) (by decide) (by omega) (by omega) (fun c => ?_) hd ?_
    · exact arrV_new c w.toNat (Value.int 0)
    · intro q r cA H1 hinj hnot hK1 hP1 hD1 hS1
      have hcA : cA = γ 5 := by
        have h1 : va_RA s cA (.array .int) := (hK1.2 6 _ rfl).2
        have h2 : va_RA s (γ 5) (.array .int) := (hPer.1.2 5 _ rfl).2
        exact Option.some.inj (h1.symm.trans h2)
      subst hcA
      have e5 : va_pl ([] ++ (List.range n.toNat).map r) (vr_up (fun _ => zcell γ ρ (0, w.toNat) (fun _ => 0)) ((List.range n.toNat).map r) (Sum.inl (γ 0, (w.toNat, .inl (fun _ => 0))))) = (List.range n.toNat).map (fun t => (r t, zcell γ ρ (0, w.toNat) (fun _ => 0))) := by
        unfold va_pl
        rw [List.nil_append, List.map_map]
        apply List.map_congr_left
        intro t ht
        show (r t, vr_up _ _ _ (r t)) = _
        rw [vr_up_in (List.mem_map.mpr ⟨t, ht, rfl⟩)]
        rfl
      rw [e5] at hP1 hD1
      have hk := kk (zups ρ X.1.length q r) H1 (fun x hx => by unfold zups; rw [if_pos hx]) (zWd_mul hn0 hW hP1 hD1) hS1
      have hr : ∀ x, x < X.1.length → zups ρ X.1.length q r x = ρ x := fun x hx => by unfold zups; rw [if_pos hx]
      rw [List.map_cons, zst_ext hs.cons.2.cons.2 hr] at hk
      have e2 : zcv τ (zups ρ X.1.length q r) (2, (X.1.length : Int) + 1) = .ref q := by
        show Value.ref (zups ρ X.1.length q r ((X.1.length : Int) + 1 - 1).toNat) = _
        unfold zups
        rw [if_neg (by omega), if_pos (by omega)]
      rw [e2, show cells + (1 + n.toNat) = cells + 1 + n.toNat by omega, show slots + (n.toNat + n.toNat * w.toNat) = slots + n.toNat + n.toNat * w.toNat by omega] at hk
      exact hk
  · cases h
theorem so_objinit {idx : Nat} {own : String} (hp : P[i]? = some pc) (hq : P[i + 1]? = some (pc + 3)) (hd : decode B pc = .ok (.invokespecial idx, 3)) (ho : zow k = own) (hw : Cond.methodLink own idx objectInit ∈ zT ∧ Cond.instanceMethod objectInit ∈ zT ∧ Cond.code objectInit ⟨#[0xb1]⟩ 1 none ∈ zT) (hr : 1 ≤ zlv k ∧ 20 ≤ zlc k) : zSO l D γ τ L xs k B P i zo_objinit := by
  intro hB hP F hF st lo M X r M' X' h
  unfold zo_objinit at h
  split at h
  · rename_i a st
    split at h
    · rename_i hsc
      refine (hF _ _ _ _ _ _ _ _ _ h).step _ _ _ _ _ _ (zstp_pure (fun h _ => h.cons.2) ?_)
      rintro p e R s m args below meth c H locs cells slots Q ls ρ ⟨hx, hb, hml, hown, hts, hfr, hlc, hnm, hht⟩ hL hs hl kk
      rw [zpc_of hP hp]; rw [zpc_of hP hq] at kk
      rw [ho] at hown
      have hcat := Nat.le_of_ble_eq_true hsc
      rw [← zcat_eq (τ := τ) (ρ := ρ)] at hcat
      exact W.objInit hx (hb.trans hB) hown (hts _ hw.1) (hts _ hw.2.1) (hts _ hw.2.2) (g := F0 m pc ls (List.map (zcv τ ρ) ((2, a) :: st))) rfl (hL.2.1.trans hml.symm) rfl hd (by omega) (by show 0 + _ + 12 ≤ _; omega) kk
    · cases h
  · cases h
theorem zcpy_out {M : zM} {a sp b dp n x y : Int} (h : x ≠ b) : zcpy M a sp b dp n x y = M x y := by
  unfold zcpy
  rw [if_neg (fun z => h z.1)]
end SO6
