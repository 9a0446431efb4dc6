/-! THE OPERATIONS AGAINST THE INSTRUCTIONS: numbers, branches, switches -/
section SO2
variable {l : Launch} {D : va_G} {γ : Nat → ClassId} {τ : Nat → Nat} {L : Nat} {xs : Nat → Int32} {k i pc : Nat} {B : ByteArray} {P : List Nat}
theorem z32div {a b : Int} (ha : zI a) (hb : zI b) (h0 : 0 < b) : Int32.ofInt (a.tdiv b) = Int32.ofInt a / Int32.ofInt b ∧ zI (a.tdiv b) := by
  have h1 : zI (a.tdiv b) := by
    have h2 := Int.natAbs_tdiv_le_natAbs a b
    rcases Int.le_total 0 a with q | q
    · have := Int.tdiv_nonneg q (Int.le_of_lt h0)
      omega
    · have : a.tdiv b ≤ 0 := by
        have h3 := Int.tdiv_nonneg (a := -a) (b := b) (by omega) (Int.le_of_lt h0)
        rw [Int.neg_tdiv] at h3
        omega
      omega
  refine ⟨?_, h1⟩
  rw [← Int32.toInt_inj, z32 h1, Int32.toInt_div, z32 ha, z32 hb]
  rw [Int.bmod_eq_of_le (by omega) (by omega)]
theorem z32rem {a b : Int} (ha : zI a) (hb : zI b) (h0 : 0 < b) : Int32.ofInt (a.tmod b) = Int32.ofInt a - Int32.ofInt a / Int32.ofInt b * Int32.ofInt b ∧ zI (a.tmod b) := by
  have h1 := Int.tmod_lt_of_pos a h0
  have h2 := Int.lt_tmod_of_pos a h0
  refine ⟨?_, by omega⟩
  rw [← (z32div ha hb h0).1, ← Int32.ofInt_mul, ← Int32.ofInt_sub, Int.tmod_def, Int.mul_comm]
theorem z32and {a b : Int} (hb : b = 1 ∨ b = 3 ∨ b = 15 ∨ b = 63) : Int32.ofInt a &&& Int32.ofInt b = Int32.ofInt (a % (b + 1)) ∧ zI (a % (b + 1)) := by
  have key : ∀ q : Nat, b + 1 = ((2 ^ q : Nat) : Int) → q ≤ 6 → (Int32.ofInt b).toBitVec.toNat = 2 ^ q - 1 → Int32.ofInt a &&& Int32.ofInt b = Int32.ofInt (a % (b + 1)) := by
    intro q h1 h2 h3
    rw [pk_and (Int32.ofInt a) q h3, h1]
    have e : (Int32.ofInt a).toBitVec.toNat = (a % (2 ^ 32 : Nat)).toNat := by
      show (BitVec.ofInt 32 a).toNat = _
      rw [BitVec.toNat_ofInt]
    rw [e]
    show Int32.ofNat _ = _
    rw [← Int32.ofInt_eq_ofNat]
    congr 1
    have h4 : ((2 ^ 32 : Nat) : Int) = ((2 ^ q : Nat) : Int) * ((2 ^ (32 - q) : Nat) : Int) := by
      rw [← Int.natCast_mul, ← Nat.pow_add]
      congr 2
      omega
    rw [Int.natCast_emod, Int.toNat_of_nonneg (Int.emod_nonneg _ (by decide)), h4, Int.emod_emod_of_dvd _ ⟨_, rfl⟩]
  refine ⟨?_, ?_⟩
  · rcases hb with rfl | rfl | rfl | rfl
    · exact key 1 rfl (by decide) (by decide)
    · exact key 2 rfl (by decide) (by decide)
    · exact key 4 rfl (by decide) (by decide)
    · exact key 6 rfl (by decide) (by decide)
  · have h1 := Int.emod_nonneg a (b := b + 1) (by omega)
    have h2 := Int.emod_lt_of_pos a (b := b + 1) (by omega)
    omega
theorem z32rng (x : Int32) : zI x.toInt := by
  have h1 := x.le_toInt
  have h2 := x.toInt_lt
  omega
theorem z64rng (x : Int64) : zL x.toInt := by
  have h1 := x.le_toInt
  have h2 := x.toInt_lt
  omega
theorem z32o (x : Int32) : Int32.ofInt x.toInt = x := Int32.ofInt_toInt x
theorem z64o (x : Int64) : Int64.ofInt x.toInt = x := Int64.ofInt_toInt x
theorem zbm {n : Nat} {x : Int} (h0 : 0 < n) (h : n ≤ 4294967296) : zI (x.bmod n) := by
  have h1 := Int.le_bmod (x := x) h0
  have h2 := Int.bmod_lt (x := x) h0
  omega
theorem zl2i {x : Int} (h : zL x) : (Int64.ofInt x).toInt32 = Int32.ofInt (x.bmod 4294967296) := by
  rw [← Int32.toInt_inj, Int64.toInt_toInt32, z64 h, z32 (zbm (by decide) (by decide))]
theorem zi2l {x : Int} (h : zI x) : (Int32.ofInt x).toInt64 = Int64.ofInt x := by
  rw [← Int64.toInt_inj, Int32.toInt_toInt64, z32 h, z64 (by omega)]
theorem zi2b {x : Int} (h : zI x) : (Int32.ofInt x).toInt8.toInt32 = Int32.ofInt (x.bmod 256) := by
  rw [← Int32.toInt_inj, Int8.toInt_toInt32, Int32.toInt_toInt8, z32 h, z32 (zbm (by decide) (by decide))]
theorem zi2s {x : Int} (h : zI x) : (Int32.ofInt x).toInt16.toInt32 = Int32.ofInt (x.bmod 65536) := by
  rw [← Int32.toInt_inj, Int16.toInt_toInt32, Int32.toInt_toInt16, z32 h, z32 (zbm (by decide) (by decide))]
theorem zcmp_eq {a b : Int} (ha : zL a) (hb : zL b) : lg_cmp (Int64.ofInt a) (Int64.ofInt b) = Int32.ofInt (zcmp a b) := by
  unfold lg_cmp zcmp
  simp only [gt_iff_lt, z64lt hb ha, z64eq ha hb]
  split
  · rfl
  · split <;> rfl

theorem so_iadd (hp : P[i]? = some pc) (hq : P[i + 1]? = some (pc + 1)) (hd : decode B pc = .ok (.iadd, 1)) : zSO l D γ τ L xs k B P i zo_iadd := by
  intro hB hP F hF st lo M X r M' X' h
  unfold zo_iadd zo_bin at h
  split at h
  · rename_i b a st
    obtain ⟨hz, h⟩ := zg_some h
    refine (hF _ _ _ _ _ _ _ _ _ h).step _ _ _ _ _ _ (zstp_pure (fun h _ => zsOK.mk (.of0 hz) h.cons.2.cons.2) ?_)
    rintro p e R s m args below meth c H locs cells slots Q ls ρ ⟨hx, hb, -⟩ hL hs hl kk
    have ha := hs.cons.2.cons.1
    have hbb := hs.cons.1
    rw [zpc_of hP hp]; rw [zpc_of hP hq] at kk
    exact lv_iadd hx (hb.trans hB) hd (by rw [← Int32.ofInt_add]; exact kk)
  · cases h

theorem so_isub (hp : P[i]? = some pc) (hq : P[i + 1]? = some (pc + 1)) (hd : decode B pc = .ok (.isub, 1)) : zSO l D γ τ L xs k B P i zo_isub := by
  intro hB hP F hF st lo M X r M' X' h
  unfold zo_isub zo_bin at h
  split at h
  · rename_i b a st
    obtain ⟨hz, h⟩ := zg_some h
    refine (hF _ _ _ _ _ _ _ _ _ h).step _ _ _ _ _ _ (zstp_pure (fun h _ => zsOK.mk (.of0 hz) h.cons.2.cons.2) ?_)
    rintro p e R s m args below meth c H locs cells slots Q ls ρ ⟨hx, hb, -⟩ hL hs hl kk
    have ha := hs.cons.2.cons.1
    have hbb := hs.cons.1
    rw [zpc_of hP hp]; rw [zpc_of hP hq] at kk
    exact lv_isub hx (hb.trans hB) hd (by rw [← Int32.ofInt_sub]; exact kk)
  · cases h

theorem so_imul (hp : P[i]? = some pc) (hq : P[i + 1]? = some (pc + 1)) (hd : decode B pc = .ok (.imul, 1)) : zSO l D γ τ L xs k B P i zo_imul := by
  intro hB hP F hF st lo M X r M' X' h
  unfold zo_imul zo_bin at h
  split at h
  · rename_i b a st
    obtain ⟨hz, h⟩ := zg_some h
    refine (hF _ _ _ _ _ _ _ _ _ h).step _ _ _ _ _ _ (zstp_pure (fun h _ => zsOK.mk (.of0 hz) h.cons.2.cons.2) ?_)
    rintro p e R s m args below meth c H locs cells slots Q ls ρ ⟨hx, hb, -⟩ hL hs hl kk
    have ha := hs.cons.2.cons.1
    have hbb := hs.cons.1
    rw [zpc_of hP hp]; rw [zpc_of hP hq] at kk
    exact lv_imul hx (hb.trans hB) hd (by rw [← Int32.ofInt_mul]; exact kk)
  · cases h

theorem so_idiv (hp : P[i]? = some pc) (hq : P[i + 1]? = some (pc + 1)) (hd : decode B pc = .ok (.idiv, 1)) : zSO l D γ τ L xs k B P i zo_idiv := by
  intro hB hP F hF st lo M X r M' X' h
  unfold zo_idiv at h
  split at h
  · rename_i b a st
    obtain ⟨hz, h⟩ := zg_some h
    refine (hF _ _ _ _ _ _ _ _ _ h).step _ _ _ _ _ _ (zstp_pure (fun h _ => zsOK.mk (.of0 (z32div h.cons.2.cons.1.gi h.cons.1.gi hz).2) h.cons.2.cons.2) ?_)
    rintro p e R s m args below meth c H locs cells slots Q ls ρ ⟨hx, hb, -⟩ hL hs hl kk
    have ha := hs.cons.2.cons.1
    have hbb := hs.cons.1
    rw [zpc_of hP hp]; rw [zpc_of hP hq] at kk
    have hne : ¬ Int32.ofInt b = 0 := by
      rw [z32z, z32eq hbb.gi (by decide)]; omega
    exact lv_idiv hx (hb.trans hB) hd hne (by rw [← (z32div ha.gi hbb.gi hz).1]; exact kk)
  · cases h

theorem so_irem (hp : P[i]? = some pc) (hq : P[i + 1]? = some (pc + 1)) (hd : decode B pc = .ok (.irem, 1)) : zSO l D γ τ L xs k B P i zo_irem := by
  intro hB hP F hF st lo M X r M' X' h
  unfold zo_irem at h
  split at h
  · rename_i b a st
    obtain ⟨hz, h⟩ := zg_some h
    refine (hF _ _ _ _ _ _ _ _ _ h).step _ _ _ _ _ _ (zstp_pure (fun h _ => zsOK.mk (.of0 (z32rem h.cons.2.cons.1.gi h.cons.1.gi hz).2) h.cons.2.cons.2) ?_)
    rintro p e R s m args below meth c H locs cells slots Q ls ρ ⟨hx, hb, -⟩ hL hs hl kk
    have ha := hs.cons.2.cons.1
    have hbb := hs.cons.1
    rw [zpc_of hP hp]; rw [zpc_of hP hq] at kk
    have hne : ¬ Int32.ofInt b = 0 := by
      rw [z32z, z32eq hbb.gi (by decide)]; omega
    exact lv_irem hx (hb.trans hB) hd hne (by rw [← (z32rem ha.gi hbb.gi hz).1]; exact kk)
  · cases h

theorem so_iand (hp : P[i]? = some pc) (hq : P[i + 1]? = some (pc + 1)) (hd : decode B pc = .ok (.iand, 1)) : zSO l D γ τ L xs k B P i zo_iand := by
  intro hB hP F hF st lo M X r M' X' h
  unfold zo_iand at h
  split at h
  · rename_i b a st
    obtain ⟨hz, h⟩ := zg_some h
    refine (hF _ _ _ _ _ _ _ _ _ h).step _ _ _ _ _ _ (zstp_pure (fun h _ => zsOK.mk (.of0 (z32and hz).2) h.cons.2.cons.2) ?_)
    rintro p e R s m args below meth c H locs cells slots Q ls ρ ⟨hx, hb, -⟩ hL hs hl kk
    have ha := hs.cons.2.cons.1
    have hbb := hs.cons.1
    rw [zpc_of hP hp]; rw [zpc_of hP hq] at kk
    exact lv_iand hx (hb.trans hB) hd (by rw [(z32and hz).1]; exact kk)
  · cases h

theorem so_ixor (hp : P[i]? = some pc) (hq : P[i + 1]? = some (pc + 1)) (hd : decode B pc = .ok (.ixor, 1)) : zSO l D γ τ L xs k B P i zo_ixor := by
  intro hB hP F hF st lo M X r M' X' h
  unfold zo_ixor at h
  split at h
  · rename_i b a st

    refine (hF _ _ _ _ _ _ _ _ _ h).step _ _ _ _ _ _ (zstp_pure (fun h _ => zsOK.mk (.of0 (z32rng _)) h.cons.2.cons.2) ?_)
    rintro p e R s m args below meth c H locs cells slots Q ls ρ ⟨hx, hb, -⟩ hL hs hl kk
    have ha := hs.cons.2.cons.1
    have hbb := hs.cons.1
    rw [zpc_of hP hp]; rw [zpc_of hP hq] at kk
    exact lv_ixor hx (hb.trans hB) hd (by rw [← z32o (_ ^^^ _)]; exact kk)
  · cases h

theorem so_land (hp : P[i]? = some pc) (hq : P[i + 1]? = some (pc + 1)) (hd : decode B pc = .ok (.land, 1)) : zSO l D γ τ L xs k B P i zo_land := by
  intro hB hP F hF st lo M X r M' X' h
  unfold zo_land at h
  split at h
  · rename_i b a st

    refine (hF _ _ _ _ _ _ _ _ _ h).step _ _ _ _ _ _ (zstp_pure (fun h _ => zsOK.mk (.of1 (z64rng _)) h.cons.2.cons.2) ?_)
    rintro p e R s m args below meth c H locs cells slots Q ls ρ ⟨hx, hb, -⟩ hL hs hl kk
    have ha := hs.cons.2.cons.1
    have hbb := hs.cons.1
    rw [zpc_of hP hp]; rw [zpc_of hP hq] at kk
    exact lv_land hx (hb.trans hB) hd (by rw [← z64o (_ &&& _)]; exact kk)
  · cases h

theorem so_lor (hp : P[i]? = some pc) (hq : P[i + 1]? = some (pc + 1)) (hd : decode B pc = .ok (.lor, 1)) : zSO l D γ τ L xs k B P i zo_lor := by
  intro hB hP F hF st lo M X r M' X' h
  unfold zo_lor at h
  split at h
  · rename_i b a st

    refine (hF _ _ _ _ _ _ _ _ _ h).step _ _ _ _ _ _ (zstp_pure (fun h _ => zsOK.mk (.of1 (z64rng _)) h.cons.2.cons.2) ?_)
    rintro p e R s m args below meth c H locs cells slots Q ls ρ ⟨hx, hb, -⟩ hL hs hl kk
    have ha := hs.cons.2.cons.1
    have hbb := hs.cons.1
    rw [zpc_of hP hp]; rw [zpc_of hP hq] at kk
    exact lv_lor hx (hb.trans hB) hd (by rw [← z64o (_ ||| _)]; exact kk)
  · cases h

theorem so_lshl (hp : P[i]? = some pc) (hq : P[i + 1]? = some (pc + 1)) (hd : decode B pc = .ok (.lshl, 1)) : zSO l D γ τ L xs k B P i zo_lshl := by
  intro hB hP F hF st lo M X r M' X' h
  unfold zo_lshl at h
  split at h
  · rename_i b a st

    refine (hF _ _ _ _ _ _ _ _ _ h).step _ _ _ _ _ _ (zstp_pure (fun h _ => zsOK.mk (.of1 (z64rng _)) h.cons.2.cons.2) ?_)
    rintro p e R s m args below meth c H locs cells slots Q ls ρ ⟨hx, hb, -⟩ hL hs hl kk
    have ha := hs.cons.2.cons.1
    have hbb := hs.cons.1
    rw [zpc_of hP hp]; rw [zpc_of hP hq] at kk
    exact lv_lshl hx (hb.trans hB) hd rfl (by rw [← z64o (_ <<< _)]; exact kk)
  · cases h

theorem so_lmul (hp : P[i]? = some pc) (hq : P[i + 1]? = some (pc + 1)) (hd : decode B pc = .ok (.lmul, 1)) : zSO l D γ τ L xs k B P i zo_lmul := by
  intro hB hP F hF st lo M X r M' X' h
  unfold zo_lmul at h
  split at h
  · rename_i b a st
    obtain ⟨hz, h⟩ := zg_some h
    refine (hF _ _ _ _ _ _ _ _ _ h).step _ _ _ _ _ _ (zstp_pure (fun h _ => zsOK.mk (.of1 hz) h.cons.2.cons.2) ?_)
    rintro p e R s m args below meth c H locs cells slots Q ls ρ ⟨hx, hb, -⟩ hL hs hl kk
    have ha := hs.cons.2.cons.1
    have hbb := hs.cons.1
    rw [zpc_of hP hp]; rw [zpc_of hP hq] at kk
    exact lv_lmul hx (hb.trans hB) hd (by rw [← Int64.ofInt_mul]; exact kk)
  · cases h

theorem so_lcmp (hp : P[i]? = some pc) (hq : P[i + 1]? = some (pc + 1)) (hd : decode B pc = .ok (.lcmp, 1)) : zSO l D γ τ L xs k B P i zo_lcmp := by
  intro hB hP F hF st lo M X r M' X' h
  unfold zo_lcmp at h
  split at h
  · rename_i b a st

    refine (hF _ _ _ _ _ _ _ _ _ h).step _ _ _ _ _ _ (zstp_pure (fun h _ => zsOK.mk (.of0 (by unfold zcmp; split <;> (try split) <;> omega)) h.cons.2.cons.2) ?_)
    rintro p e R s m args below meth c H locs cells slots Q ls ρ ⟨hx, hb, -⟩ hL hs hl kk
    have ha := hs.cons.2.cons.1
    have hbb := hs.cons.1
    rw [zpc_of hP hp]; rw [zpc_of hP hq] at kk
    exact W.lcmp hx (hb.trans hB) hd (by rw [zcmp_eq ha.gl hbb.gl]; exact kk)
  · cases h

theorem so_ineg (hp : P[i]? = some pc) (hq : P[i + 1]? = some (pc + 1)) (hd : decode B pc = .ok (.ineg, 1)) : zSO l D γ τ L xs k B P i zo_ineg := by
  intro hB hP F hF st lo M X r M' X' h
  unfold zo_ineg at h
  split at h
  · rename_i a st
    obtain ⟨hz, h⟩ := zg_some h
    refine (hF _ _ _ _ _ _ _ _ _ h).step _ _ _ _ _ _ (zstp_pure (fun h _ => zsOK.mk (.of0 hz) h.cons.2) ?_)
    rintro p e R s m args below meth c H locs cells slots Q ls ρ ⟨hx, hb, -⟩ hL hs hl kk
    have ha := hs.cons.1
    rw [zpc_of hP hp]; rw [zpc_of hP hq] at kk
    exact lv_ineg hx (hb.trans hB) hd (by rw [← Int32.ofInt_neg]; exact kk)
  · cases h

theorem so_i2l (hp : P[i]? = some pc) (hq : P[i + 1]? = some (pc + 1)) (hd : decode B pc = .ok (.i2l, 1)) : zSO l D γ τ L xs k B P i zo_i2l := by
  intro hB hP F hF st lo M X r M' X' h
  unfold zo_i2l at h
  split at h
  · rename_i a st

    refine (hF _ _ _ _ _ _ _ _ _ h).step _ _ _ _ _ _ (zstp_pure (fun h _ => zsOK.mk (.of1 (by have := h.cons.1.gi; omega)) h.cons.2) ?_)
    rintro p e R s m args below meth c H locs cells slots Q ls ρ ⟨hx, hb, -⟩ hL hs hl kk
    have ha := hs.cons.1
    rw [zpc_of hP hp]; rw [zpc_of hP hq] at kk
    exact lv_i2l hx (hb.trans hB) hd (zi2l ha.gi) kk
  · cases h

theorem so_l2i (hp : P[i]? = some pc) (hq : P[i + 1]? = some (pc + 1)) (hd : decode B pc = .ok (.l2i, 1)) : zSO l D γ τ L xs k B P i zo_l2i := by
  intro hB hP F hF st lo M X r M' X' h
  unfold zo_l2i at h
  split at h
  · rename_i a st

    refine (hF _ _ _ _ _ _ _ _ _ h).step _ _ _ _ _ _ (zstp_pure (fun h _ => zsOK.mk (.of0 (zbm (by decide) (by decide))) h.cons.2) ?_)
    rintro p e R s m args below meth c H locs cells slots Q ls ρ ⟨hx, hb, -⟩ hL hs hl kk
    have ha := hs.cons.1
    rw [zpc_of hP hp]; rw [zpc_of hP hq] at kk
    exact lv_l2i hx (hb.trans hB) hd (zl2i ha.gl) kk
  · cases h

theorem so_i2b (hp : P[i]? = some pc) (hq : P[i + 1]? = some (pc + 1)) (hd : decode B pc = .ok (.i2b, 1)) : zSO l D γ τ L xs k B P i zo_i2b := by
  intro hB hP F hF st lo M X r M' X' h
  unfold zo_i2b at h
  split at h
  · rename_i a st

    refine (hF _ _ _ _ _ _ _ _ _ h).step _ _ _ _ _ _ (zstp_pure (fun h _ => zsOK.mk (.of0 (zbm (by decide) (by decide))) h.cons.2) ?_)
    rintro p e R s m args below meth c H locs cells slots Q ls ρ ⟨hx, hb, -⟩ hL hs hl kk
    have ha := hs.cons.1
    rw [zpc_of hP hp]; rw [zpc_of hP hq] at kk
    exact lv_i2b hx (hb.trans hB) hd (zi2b ha.gi) kk
  · cases h

theorem so_i2s (hp : P[i]? = some pc) (hq : P[i + 1]? = some (pc + 1)) (hd : decode B pc = .ok (.i2s, 1)) : zSO l D γ τ L xs k B P i zo_i2s := by
  intro hB hP F hF st lo M X r M' X' h
  unfold zo_i2s at h
  split at h
  · rename_i a st

    refine (hF _ _ _ _ _ _ _ _ _ h).step _ _ _ _ _ _ (zstp_pure (fun h _ => zsOK.mk (.of0 (zbm (by decide) (by decide))) h.cons.2) ?_)
    rintro p e R s m args below meth c H locs cells slots Q ls ρ ⟨hx, hb, -⟩ hL hs hl kk
    have ha := hs.cons.1
    rw [zpc_of hP hp]; rw [zpc_of hP hq] at kk
    exact lv_i2s hx (hb.trans hB) hd (zi2s ha.gi) kk
  · cases h

theorem so_dup (hp : P[i]? = some pc) (hq : P[i + 1]? = some (pc + 1)) (hd : decode B pc = .ok (.dup, 1)) : zSO l D γ τ L xs k B P i zo_dup := by
  intro hB hP F hF st lo M X r M' X' h
  unfold zo_dup at h
  split at h
  · rename_i a st
    refine (hF _ _ _ _ _ _ _ _ _ h).step _ _ _ _ _ _ (zstp_pure (fun h _ => zsOK.mk h.cons.1 h) ?_)
    rintro p e R s m args below meth c H locs cells slots Q ls ρ ⟨hx, hb, -⟩ hL hs hl kk
    rw [zpc_of hP hp]; rw [zpc_of hP hq] at kk
    exact lv_dup hx (hb.trans hB) hd rfl kk
  · rename_i a st
    refine (hF _ _ _ _ _ _ _ _ _ h).step _ _ _ _ _ _ (zstp_pure (fun h _ => zsOK.mk h.cons.1 h) ?_)
    rintro p e R s m args below meth c H locs cells slots Q ls ρ ⟨hx, hb, -⟩ hL hs hl kk
    rw [zpc_of hP hp]; rw [zpc_of hP hq] at kk
    exact lv_dup hx (hb.trans hB) hd rfl kk
  · cases h
theorem so_dup2 (hp : P[i]? = some pc) (hq : P[i + 1]? = some (pc + 1)) (hd : decode B pc = .ok (.dup2, 1)) : zSO l D γ τ L xs k B P i zo_dup2 := by
  intro hB hP F hF st lo M X r M' X' h
  unfold zo_dup2 at h
  split at h
  · rename_i b a st
    refine (hF _ _ _ _ _ _ _ _ _ h).step _ _ _ _ _ _ (zstp_pure (fun h _ => zsOK.mk h.cons.1 (zsOK.mk h.cons.2.cons.1 h)) ?_)
    rintro p e R s m args below meth c H locs cells slots Q ls ρ ⟨hx, hb, -⟩ hL hs hl kk
    rw [zpc_of hP hp]; rw [zpc_of hP hq] at kk
    exact lv_dup2_11 hx (hb.trans hB) hd rfl rfl kk
  · cases h
theorem so_goto {t tp : Nat} {off : Int} (hp : P[i]? = some pc) (hq : P[t]? = some tp) (hd : decode B pc = .ok (.goto off, 3)) (ht : (pc : Int) + off = (tp : Int)) : zSO l D γ τ L xs k B P i (zo_goto t) := by
  intro hB hP F hF st lo M X r M' X' h
  refine (hF _ _ _ _ _ _ _ _ _ h).step _ _ _ _ _ _ (zstp_pure (fun h _ => h) ?_)
  rintro p e R s m args below meth c H locs cells slots Q ls ρ ⟨hx, hb, -⟩ hL hs hl kk
  rw [zpc_of hP hp]; rw [zpc_of hP hq] at kk
  exact lv_goto hx (hb.trans hB) hd ht kk

theorem so_ifeq {t tp : Nat} {off : Int} (hp : P[i]? = some pc) (hq : P[i + 1]? = some (pc + 3)) (hqt : P[t]? = some tp) (hd : decode B pc = .ok (.ifCond .eq off, 3)) (ht : (pc : Int) + off = (tp : Int)) : zSO l D γ τ L xs k B P i (zo_ifeq t) := by
  intro hB hP F hF st lo M X r M' X' h
  unfold zo_ifeq at h
  split at h
  · rename_i a st
    split at h
    · rename_i hc
      refine (hF _ _ _ _ _ _ _ _ _ h).step _ _ _ _ _ _ (zstp_pure (fun h _ => h.cons.2) ?_)
      rintro p e R s m args below meth c H locs cells slots Q ls ρ ⟨hx, hb, -⟩ hL hs hl kk
      have ha := hs.cons.1
      have zz : zI 0 := by decide
      rw [zpc_of hP hp]; rw [zpc_of hP hqt] at kk
      exact lv_if_eq hx (hb.trans hB) hd ht (fun _ => kk) (fun q => absurd ((z32eq ha.gi zz).mpr hc) q)
    · rename_i hc
      refine (hF _ _ _ _ _ _ _ _ _ h).step _ _ _ _ _ _ (zstp_pure (fun h _ => h.cons.2) ?_)
      rintro p e R s m args below meth c H locs cells slots Q ls ρ ⟨hx, hb, -⟩ hL hs hl kk
      have ha := hs.cons.1
      have zz : zI 0 := by decide
      rw [zpc_of hP hp]; rw [zpc_of hP hq] at kk
      exact lv_if_eq hx (hb.trans hB) hd ht (fun q => absurd ((z32eq ha.gi zz).mp q) hc) (fun _ => kk)
  · cases h

theorem so_iceq {t tp : Nat} {off : Int} (hp : P[i]? = some pc) (hq : P[i + 1]? = some (pc + 3)) (hqt : P[t]? = some tp) (hd : decode B pc = .ok (.if_icmp .eq off, 3)) (ht : (pc : Int) + off = (tp : Int)) : zSO l D γ τ L xs k B P i (zo_iceq t) := by
  intro hB hP F hF st lo M X r M' X' h
  unfold zo_iceq at h
  split at h
  · rename_i b a st
    split at h
    · rename_i hc
      refine (hF _ _ _ _ _ _ _ _ _ h).step _ _ _ _ _ _ (zstp_pure (fun h _ => h.cons.2.cons.2) ?_)
      rintro p e R s m args below meth c H locs cells slots Q ls ρ ⟨hx, hb, -⟩ hL hs hl kk
      have ha := hs.cons.2.cons.1
      have hbb := hs.cons.1
      rw [zpc_of hP hp]; rw [zpc_of hP hqt] at kk
      exact lv_icmp_eq hx (hb.trans hB) hd ht (fun _ => kk) (fun q => absurd ((z32eq ha.gi hbb.gi).mpr hc) q)
    · rename_i hc
      refine (hF _ _ _ _ _ _ _ _ _ h).step _ _ _ _ _ _ (zstp_pure (fun h _ => h.cons.2.cons.2) ?_)
      rintro p e R s m args below meth c H locs cells slots Q ls ρ ⟨hx, hb, -⟩ hL hs hl kk
      have ha := hs.cons.2.cons.1
      have hbb := hs.cons.1
      rw [zpc_of hP hp]; rw [zpc_of hP hq] at kk
      exact lv_icmp_eq hx (hb.trans hB) hd ht (fun q => absurd ((z32eq ha.gi hbb.gi).mp q) hc) (fun _ => kk)
  · cases h

theorem so_ifne {t tp : Nat} {off : Int} (hp : P[i]? = some pc) (hq : P[i + 1]? = some (pc + 3)) (hqt : P[t]? = some tp) (hd : decode B pc = .ok (.ifCond .ne off, 3)) (ht : (pc : Int) + off = (tp : Int)) : zSO l D γ τ L xs k B P i (zo_ifne t) := by
  intro hB hP F hF st lo M X r M' X' h
  unfold zo_ifne at h
  split at h
  · rename_i a st
    split at h
    · rename_i hc
      refine (hF _ _ _ _ _ _ _ _ _ h).step _ _ _ _ _ _ (zstp_pure (fun h _ => h.cons.2) ?_)
      rintro p e R s m args below meth c H locs cells slots Q ls ρ ⟨hx, hb, -⟩ hL hs hl kk
      have ha := hs.cons.1
      have zz : zI 0 := by decide
      rw [zpc_of hP hp]; rw [zpc_of hP hq] at kk
      exact lv_if_ne hx (hb.trans hB) hd ht (fun q => absurd ((z32eq ha.gi zz).mpr hc) q) (fun _ => kk)
    · rename_i hc
      refine (hF _ _ _ _ _ _ _ _ _ h).step _ _ _ _ _ _ (zstp_pure (fun h _ => h.cons.2) ?_)
      rintro p e R s m args below meth c H locs cells slots Q ls ρ ⟨hx, hb, -⟩ hL hs hl kk
      have ha := hs.cons.1
      have zz : zI 0 := by decide
      rw [zpc_of hP hp]; rw [zpc_of hP hqt] at kk
      exact lv_if_ne hx (hb.trans hB) hd ht (fun _ => kk) (fun q => absurd ((z32eq ha.gi zz).mp q) hc)
  · cases h

theorem so_icne {t tp : Nat} {off : Int} (hp : P[i]? = some pc) (hq : P[i + 1]? = some (pc + 3)) (hqt : P[t]? = some tp) (hd : decode B pc = .ok (.if_icmp .ne off, 3)) (ht : (pc : Int) + off = (tp : Int)) : zSO l D γ τ L xs k B P i (zo_icne t) := by
  intro hB hP F hF st lo M X r M' X' h
  unfold zo_icne at h
  split at h
  · rename_i b a st
    split at h
    · rename_i hc
      refine (hF _ _ _ _ _ _ _ _ _ h).step _ _ _ _ _ _ (zstp_pure (fun h _ => h.cons.2.cons.2) ?_)
      rintro p e R s m args below meth c H locs cells slots Q ls ρ ⟨hx, hb, -⟩ hL hs hl kk
      have ha := hs.cons.2.cons.1
      have hbb := hs.cons.1
      rw [zpc_of hP hp]; rw [zpc_of hP hq] at kk
      exact lv_icmp_ne hx (hb.trans hB) hd ht (fun q => absurd ((z32eq ha.gi hbb.gi).mpr hc) q) (fun _ => kk)
    · rename_i hc
      refine (hF _ _ _ _ _ _ _ _ _ h).step _ _ _ _ _ _ (zstp_pure (fun h _ => h.cons.2.cons.2) ?_)
      rintro p e R s m args below meth c H locs cells slots Q ls ρ ⟨hx, hb, -⟩ hL hs hl kk
      have ha := hs.cons.2.cons.1
      have hbb := hs.cons.1
      rw [zpc_of hP hp]; rw [zpc_of hP hqt] at kk
      exact lv_icmp_ne hx (hb.trans hB) hd ht (fun _ => kk) (fun q => absurd ((z32eq ha.gi hbb.gi).mp q) hc)
  · cases h

theorem so_iflt {t tp : Nat} {off : Int} (hp : P[i]? = some pc) (hq : P[i + 1]? = some (pc + 3)) (hqt : P[t]? = some tp) (hd : decode B pc = .ok (.ifCond .lt off, 3)) (ht : (pc : Int) + off = (tp : Int)) : zSO l D γ τ L xs k B P i (zo_iflt t) := by
  intro hB hP F hF st lo M X r M' X' h
  unfold zo_iflt at h
  split at h
  · rename_i a st
    split at h
    · rename_i hc
      refine (hF _ _ _ _ _ _ _ _ _ h).step _ _ _ _ _ _ (zstp_pure (fun h _ => h.cons.2) ?_)
      rintro p e R s m args below meth c H locs cells slots Q ls ρ ⟨hx, hb, -⟩ hL hs hl kk
      have ha := hs.cons.1
      have zz : zI 0 := by decide
      rw [zpc_of hP hp]; rw [zpc_of hP hqt] at kk
      exact lv_if_lt hx (hb.trans hB) hd ht (fun _ => kk) (fun q => absurd ((z32lt ha.gi zz).mpr hc) q)
    · rename_i hc
      refine (hF _ _ _ _ _ _ _ _ _ h).step _ _ _ _ _ _ (zstp_pure (fun h _ => h.cons.2) ?_)
      rintro p e R s m args below meth c H locs cells slots Q ls ρ ⟨hx, hb, -⟩ hL hs hl kk
      have ha := hs.cons.1
      have zz : zI 0 := by decide
      rw [zpc_of hP hp]; rw [zpc_of hP hq] at kk
      exact lv_if_lt hx (hb.trans hB) hd ht (fun q => absurd ((z32lt ha.gi zz).mp q) hc) (fun _ => kk)
  · cases h

theorem so_iclt {t tp : Nat} {off : Int} (hp : P[i]? = some pc) (hq : P[i + 1]? = some (pc + 3)) (hqt : P[t]? = some tp) (hd : decode B pc = .ok (.if_icmp .lt off, 3)) (ht : (pc : Int) + off = (tp : Int)) : zSO l D γ τ L xs k B P i (zo_iclt t) := by
  intro hB hP F hF st lo M X r M' X' h
  unfold zo_iclt at h
  split at h
  · rename_i b a st
    split at h
    · rename_i hc
      refine (hF _ _ _ _ _ _ _ _ _ h).step _ _ _ _ _ _ (zstp_pure (fun h _ => h.cons.2.cons.2) ?_)
      rintro p e R s m args below meth c H locs cells slots Q ls ρ ⟨hx, hb, -⟩ hL hs hl kk
      have ha := hs.cons.2.cons.1
      have hbb := hs.cons.1
      rw [zpc_of hP hp]; rw [zpc_of hP hqt] at kk
      exact lv_icmp_lt hx (hb.trans hB) hd ht (fun _ => kk) (fun q => absurd ((z32lt ha.gi hbb.gi).mpr hc) q)
    · rename_i hc
      refine (hF _ _ _ _ _ _ _ _ _ h).step _ _ _ _ _ _ (zstp_pure (fun h _ => h.cons.2.cons.2) ?_)
      rintro p e R s m args below meth c H locs cells slots Q ls ρ ⟨hx, hb, -⟩ hL hs hl kk
      have ha := hs.cons.2.cons.1
      have hbb := hs.cons.1
      rw [zpc_of hP hp]; rw [zpc_of hP hq] at kk
      exact lv_icmp_lt hx (hb.trans hB) hd ht (fun q => absurd ((z32lt ha.gi hbb.gi).mp q) hc) (fun _ => kk)
  · cases h

theorem so_ifge {t tp : Nat} {off : Int} (hp : P[i]? = some pc) (hq : P[i + 1]? = some (pc + 3)) (hqt : P[t]? = some tp) (hd : decode B pc = .ok (.ifCond .ge off, 3)) (ht : (pc : Int) + off = (tp : Int)) : zSO l D γ τ L xs k B P i (zo_ifge t) := by
  intro hB hP F hF st lo M X r M' X' h
  unfold zo_ifge at h
  split at h
  · rename_i a st
    split at h
    · rename_i hc
      refine (hF _ _ _ _ _ _ _ _ _ h).step _ _ _ _ _ _ (zstp_pure (fun h _ => h.cons.2) ?_)
      rintro p e R s m args below meth c H locs cells slots Q ls ρ ⟨hx, hb, -⟩ hL hs hl kk
      have ha := hs.cons.1
      have zz : zI 0 := by decide
      rw [zpc_of hP hp]; rw [zpc_of hP hqt] at kk
      exact lv_if_ge hx (hb.trans hB) hd ht (fun _ => kk) (fun q => absurd ((z32le zz ha.gi).mpr hc) q)
    · rename_i hc
      refine (hF _ _ _ _ _ _ _ _ _ h).step _ _ _ _ _ _ (zstp_pure (fun h _ => h.cons.2) ?_)
      rintro p e R s m args below meth c H locs cells slots Q ls ρ ⟨hx, hb, -⟩ hL hs hl kk
      have ha := hs.cons.1
      have zz : zI 0 := by decide
      rw [zpc_of hP hp]; rw [zpc_of hP hq] at kk
      exact lv_if_ge hx (hb.trans hB) hd ht (fun q => absurd ((z32le zz ha.gi).mp q) hc) (fun _ => kk)
  · cases h

theorem so_icge {t tp : Nat} {off : Int} (hp : P[i]? = some pc) (hq : P[i + 1]? = some (pc + 3)) (hqt : P[t]? = some tp) (hd : decode B pc = .ok (.if_icmp .ge off, 3)) (ht : (pc : Int) + off = (tp : Int)) : zSO l D γ τ L xs k B P i (zo_icge t) := by
  intro hB hP F hF st lo M X r M' X' h
  unfold zo_icge at h
  split at h
  · rename_i b a st
    split at h
    · rename_i hc
      refine (hF _ _ _ _ _ _ _ _ _ h).step _ _ _ _ _ _ (zstp_pure (fun h _ => h.cons.2.cons.2) ?_)
      rintro p e R s m args below meth c H locs cells slots Q ls ρ ⟨hx, hb, -⟩ hL hs hl kk
      have ha := hs.cons.2.cons.1
      have hbb := hs.cons.1
      rw [zpc_of hP hp]; rw [zpc_of hP hqt] at kk
      exact lv_icmp_ge hx (hb.trans hB) hd ht (fun _ => kk) (fun q => absurd ((z32le hbb.gi ha.gi).mpr hc) q)
    · rename_i hc
      refine (hF _ _ _ _ _ _ _ _ _ h).step _ _ _ _ _ _ (zstp_pure (fun h _ => h.cons.2.cons.2) ?_)
      rintro p e R s m args below meth c H locs cells slots Q ls ρ ⟨hx, hb, -⟩ hL hs hl kk
      have ha := hs.cons.2.cons.1
      have hbb := hs.cons.1
      rw [zpc_of hP hp]; rw [zpc_of hP hq] at kk
      exact lv_icmp_ge hx (hb.trans hB) hd ht (fun q => absurd ((z32le hbb.gi ha.gi).mp q) hc) (fun _ => kk)
  · cases h

theorem so_ifgt {t tp : Nat} {off : Int} (hp : P[i]? = some pc) (hq : P[i + 1]? = some (pc + 3)) (hqt : P[t]? = some tp) (hd : decode B pc = .ok (.ifCond .gt off, 3)) (ht : (pc : Int) + off = (tp : Int)) : zSO l D γ τ L xs k B P i (zo_ifgt t) := by
  intro hB hP F hF st lo M X r M' X' h
  unfold zo_ifgt at h
  split at h
  · rename_i a st
    split at h
    · rename_i hc
      refine (hF _ _ _ _ _ _ _ _ _ h).step _ _ _ _ _ _ (zstp_pure (fun h _ => h.cons.2) ?_)
      rintro p e R s m args below meth c H locs cells slots Q ls ρ ⟨hx, hb, -⟩ hL hs hl kk
      have ha := hs.cons.1
      have zz : zI 0 := by decide
      rw [zpc_of hP hp]; rw [zpc_of hP hqt] at kk
      exact lv_if_gt hx (hb.trans hB) hd ht (fun _ => kk) (fun q => absurd ((z32lt zz ha.gi).mpr hc) q)
    · rename_i hc
      refine (hF _ _ _ _ _ _ _ _ _ h).step _ _ _ _ _ _ (zstp_pure (fun h _ => h.cons.2) ?_)
      rintro p e R s m args below meth c H locs cells slots Q ls ρ ⟨hx, hb, -⟩ hL hs hl kk
      have ha := hs.cons.1
      have zz : zI 0 := by decide
      rw [zpc_of hP hp]; rw [zpc_of hP hq] at kk
      exact lv_if_gt hx (hb.trans hB) hd ht (fun q => absurd ((z32lt zz ha.gi).mp q) hc) (fun _ => kk)
  · cases h

theorem so_icgt {t tp : Nat} {off : Int} (hp : P[i]? = some pc) (hq : P[i + 1]? = some (pc + 3)) (hqt : P[t]? = some tp) (hd : decode B pc = .ok (.if_icmp .gt off, 3)) (ht : (pc : Int) + off = (tp : Int)) : zSO l D γ τ L xs k B P i (zo_icgt t) := by
  intro hB hP F hF st lo M X r M' X' h
  unfold zo_icgt at h
  split at h
  · rename_i b a st
    split at h
    · rename_i hc
      refine (hF _ _ _ _ _ _ _ _ _ h).step _ _ _ _ _ _ (zstp_pure (fun h _ => h.cons.2.cons.2) ?_)
      rintro p e R s m args below meth c H locs cells slots Q ls ρ ⟨hx, hb, -⟩ hL hs hl kk
      have ha := hs.cons.2.cons.1
      have hbb := hs.cons.1
      rw [zpc_of hP hp]; rw [zpc_of hP hqt] at kk
      exact lv_icmp_gt hx (hb.trans hB) hd ht (fun _ => kk) (fun q => absurd ((z32lt hbb.gi ha.gi).mpr hc) q)
    · rename_i hc
      refine (hF _ _ _ _ _ _ _ _ _ h).step _ _ _ _ _ _ (zstp_pure (fun h _ => h.cons.2.cons.2) ?_)
      rintro p e R s m args below meth c H locs cells slots Q ls ρ ⟨hx, hb, -⟩ hL hs hl kk
      have ha := hs.cons.2.cons.1
      have hbb := hs.cons.1
      rw [zpc_of hP hp]; rw [zpc_of hP hq] at kk
      exact lv_icmp_gt hx (hb.trans hB) hd ht (fun q => absurd ((z32lt hbb.gi ha.gi).mp q) hc) (fun _ => kk)
  · cases h

theorem so_ifle {t tp : Nat} {off : Int} (hp : P[i]? = some pc) (hq : P[i + 1]? = some (pc + 3)) (hqt : P[t]? = some tp) (hd : decode B pc = .ok (.ifCond .le off, 3)) (ht : (pc : Int) + off = (tp : Int)) : zSO l D γ τ L xs k B P i (zo_ifle t) := by
  intro hB hP F hF st lo M X r M' X' h
  unfold zo_ifle at h
  split at h
  · rename_i a st
    split at h
    · rename_i hc
      refine (hF _ _ _ _ _ _ _ _ _ h).step _ _ _ _ _ _ (zstp_pure (fun h _ => h.cons.2) ?_)
      rintro p e R s m args below meth c H locs cells slots Q ls ρ ⟨hx, hb, -⟩ hL hs hl kk
      have ha := hs.cons.1
      have zz : zI 0 := by decide
      rw [zpc_of hP hp]; rw [zpc_of hP hqt] at kk
      exact lv_if_le hx (hb.trans hB) hd ht (fun _ => kk) (fun q => absurd ((z32le ha.gi zz).mpr hc) q)
    · rename_i hc
      refine (hF _ _ _ _ _ _ _ _ _ h).step _ _ _ _ _ _ (zstp_pure (fun h _ => h.cons.2) ?_)
      rintro p e R s m args below meth c H locs cells slots Q ls ρ ⟨hx, hb, -⟩ hL hs hl kk
      have ha := hs.cons.1
      have zz : zI 0 := by decide
      rw [zpc_of hP hp]; rw [zpc_of hP hq] at kk
      exact lv_if_le hx (hb.trans hB) hd ht (fun q => absurd ((z32le ha.gi zz).mp q) hc) (fun _ => kk)
  · cases h

theorem so_icle {t tp : Nat} {off : Int} (hp : P[i]? = some pc) (hq : P[i + 1]? = some (pc + 3)) (hqt : P[t]? = some tp) (hd : decode B pc = .ok (.if_icmp .le off, 3)) (ht : (pc : Int) + off = (tp : Int)) : zSO l D γ τ L xs k B P i (zo_icle t) := by
  intro hB hP F hF st lo M X r M' X' h
  unfold zo_icle at h
  split at h
  · rename_i b a st
    split at h
    · rename_i hc
      refine (hF _ _ _ _ _ _ _ _ _ h).step _ _ _ _ _ _ (zstp_pure (fun h _ => h.cons.2.cons.2) ?_)
      rintro p e R s m args below meth c H locs cells slots Q ls ρ ⟨hx, hb, -⟩ hL hs hl kk
      have ha := hs.cons.2.cons.1
      have hbb := hs.cons.1
      rw [zpc_of hP hp]; rw [zpc_of hP hqt] at kk
      exact lv_icmp_le hx (hb.trans hB) hd ht (fun _ => kk) (fun q => absurd ((z32le ha.gi hbb.gi).mpr hc) q)
    · rename_i hc
      refine (hF _ _ _ _ _ _ _ _ _ h).step _ _ _ _ _ _ (zstp_pure (fun h _ => h.cons.2.cons.2) ?_)
      rintro p e R s m args below meth c H locs cells slots Q ls ρ ⟨hx, hb, -⟩ hL hs hl kk
      have ha := hs.cons.2.cons.1
      have hbb := hs.cons.1
      rw [zpc_of hP hp]; rw [zpc_of hP hq] at kk
      exact lv_icmp_le hx (hb.trans hB) hd ht (fun q => absurd ((z32le ha.gi hbb.gi).mp q) hc) (fun _ => kk)
  · cases h

theorem zlsw_in {g : Nat → Option zR} {v : Int} {r : zR} : ∀ {ps : List (Int × Nat)} {d : Nat}, zlsw g v ps d = some r → (∃ t, (v, t) ∈ ps ∧ g t = some r ∧ ∃ pre suf, ps = pre ++ (v, t) :: suf ∧ ∀ q ∈ pre, q.1 ≠ v) ∨ ((∀ q ∈ ps, q.1 ≠ v) ∧ g d = some r)
  | [], d, h => Or.inr ⟨fun q hq => absurd hq List.not_mem_nil, h⟩
  | (x, t) :: ps, d, h => by
    unfold zlsw at h
    split at h
    · rename_i hv
      subst hv
      exact Or.inl ⟨t, List.mem_cons_self, h, [], ps, rfl, fun q hq => absurd hq List.not_mem_nil⟩
    · rename_i hv
      rcases zlsw_in h with ⟨t', h1, h2, pre, suf, h3, h4⟩ | ⟨h1, h2⟩
      · refine Or.inl ⟨t', List.mem_cons_of_mem _ h1, h2, (x, t) :: pre, suf, by rw [h3]; rfl, fun q hq => ?_⟩
        rcases List.mem_cons.mp hq with rfl | hq
        · exact fun z => hv z.symm
        · exact h4 q hq
      · refine Or.inr ⟨fun q hq => ?_, h2⟩
        rcases List.mem_cons.mp hq with rfl | hq
        · exact fun z => hv z.symm
        · exact h1 q hq
/-- a switch by a table: the labels run from lo -/
theorem so_tsw {ps : List (Int × Nat)} {d dp len : Nat} {dflt lo' hi : Int} {offs : Array Int} (hp : P[i]? = some pc) (hd : decode B pc = .ok (.tableswitch dflt lo' hi offs, len))
    (hdf : P[d]? = some dp ∧ (pc : Int) + dflt = (dp : Int)) (hlab : ∀ q ∈ ps, lo' ≤ q.1 ∧ q.1 ≤ hi ∧ ∃ tp off, P[q.2]? = some tp ∧ offs[(q.1 - lo').toNat]? = some off ∧ (pc : Int) + off = (tp : Int)) (hall : ∀ v : Int, lo' ≤ v → v ≤ hi → ∃ q ∈ ps, q.1 = v) : zSO l D γ τ L xs k B P i (zo_lsw ps d) := by
  intro hB hP F hF st lo M X r M' X' h
  unfold zo_lsw at h
  split at h
  · rename_i v st
    rcases zlsw_in h with ⟨t, h1, h2, -⟩ | ⟨h1, h2⟩
    · obtain ⟨g1, g2, tp, off, g3, g4, g5⟩ := hlab _ h1
      refine (hF _ _ _ _ _ _ _ _ _ h2).step _ _ _ _ _ _ (zstp_pure (fun h _ => h.cons.2) ?_)
      rintro p e R s m args below meth c H locs cells slots Q ls ρ ⟨hx, hb, -⟩ hL hs hl kk
      have ha := hs.cons.1.gi
      rw [zpc_of hP hp]; rw [zpc_of hP g3] at kk
      exact lv_tableIn hx (hb.trans hB) hd (by rw [z32 ha]; exact Int.not_lt.mpr g1) (by rw [z32 ha]; exact Int.not_lt.mpr g2) (by rw [z32 ha]; exact g4) g5 kk
    · refine (hF _ _ _ _ _ _ _ _ _ h2).step _ _ _ _ _ _ (zstp_pure (fun h _ => h.cons.2) ?_)
      rintro p e R s m args below meth c H locs cells slots Q ls ρ ⟨hx, hb, -⟩ hL hs hl kk
      have ha := hs.cons.1.gi
      rw [zpc_of hP hp]; rw [zpc_of hP hdf.1] at kk
      refine lv_tableOut hx (hb.trans hB) hd ?_ hdf.2 kk
      rw [z32 ha]
      rcases Int.lt_or_le v lo' with q | q
      · exact Or.inl q
      · rcases Int.lt_or_le hi v with q2 | q2
        · exact Or.inr q2
        · obtain ⟨x, hx1, hx2⟩ := hall v q q2
          exact absurd hx2 (h1 x hx1)
  · cases h
theorem zlk_hit {v o : Int} : ∀ {pre suf : List (Int × Int)} {d : Int}, (∀ q ∈ pre, q.1 ≠ v) → Op.lookupswitch.offset (pre ++ (v, o) :: suf) d v = o
  | [], suf, d, _ => by rw [List.nil_append, Op.lookupswitch.offset_cons, if_pos rfl]
  | (a, b) :: pre, suf, d, h => by
    rw [List.cons_append, Op.lookupswitch.offset_cons, if_neg (h (a, b) List.mem_cons_self)]
    exact zlk_hit fun q hq => h q (List.mem_cons_of_mem _ hq)
/-- a switch by pairs -/
theorem so_lsw {ps : List (Int × Nat)} {d dp len : Nat} {dflt : Int} {prs : Array (Int × Int)} (hp : P[i]? = some pc) (hd : decode B pc = .ok (.lookupswitch dflt prs, len)) (hsort : (prs.toList.zip (prs.toList.drop 1)).all (fun (a, next) => a.1 < next.1) = true)
    (hdf : P[d]? = some dp ∧ (pc : Int) + dflt = (dp : Int)) (hlab : ∀ q ∈ ps, ∃ tp off, P[q.2]? = some tp ∧ Op.lookupswitch.offset prs.toList dflt q.1 = off ∧ (pc : Int) + off = (tp : Int)) (hno : ∀ v : Int, (∀ q ∈ ps, q.1 ≠ v) → Op.lookupswitch.offset prs.toList dflt v = dflt) : zSO l D γ τ L xs k B P i (zo_lsw ps d) := by
  intro hB hP F hF st lo M X r M' X' h
  unfold zo_lsw at h
  split at h
  · rename_i v st
    rcases zlsw_in h with ⟨t, h1, h2, -⟩ | ⟨h1, h2⟩
    · obtain ⟨tp, off, g3, g4, g5⟩ := hlab _ h1
      refine (hF _ _ _ _ _ _ _ _ _ h2).step _ _ _ _ _ _ (zstp_pure (fun h _ => h.cons.2) ?_)
      rintro p e R s m args below meth c H locs cells slots Q ls ρ ⟨hx, hb, -⟩ hL hs hl kk
      have ha := hs.cons.1.gi
      rw [zpc_of hP hp]; rw [zpc_of hP g3] at kk
      exact lv_lookup hx (hb.trans hB) hd hsort (by rw [z32 ha]; exact g4) g5 kk
    · refine (hF _ _ _ _ _ _ _ _ _ h2).step _ _ _ _ _ _ (zstp_pure (fun h _ => h.cons.2) ?_)
      rintro p e R s m args below meth c H locs cells slots Q ls ρ ⟨hx, hb, -⟩ hL hs hl kk
      have ha := hs.cons.1.gi
      rw [zpc_of hP hp]; rw [zpc_of hP hdf.1] at kk
      exact lv_lookup hx (hb.trans hB) hd hsort (by rw [z32 ha]; exact hno v h1) hdf.2 kk
  · cases h
end SO2
