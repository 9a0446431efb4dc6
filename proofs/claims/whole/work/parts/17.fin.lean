/-! THE ABSTRACT RUN: what an operation looks at, the limit of the runs -/
abbrev zA : Type := Nat × Nat × List zV × List zV × zM × zX
def zap (F : zF) (a : zA) : Option zR := F a.1 a.2.1 a.2.2.1 a.2.2.2.1 a.2.2.2.2.1 a.2.2.2.2.2
def zFin (op : zOp) : Prop := ∀ (G : zF) (k i : Nat) (st lo : List zV) (M : zM) (X : zX) (r : zR), op G G k i st lo M X = some r → ∃ ps : List (zA × zR), (∀ p ∈ ps, zap G p.1 = some p.2) ∧ ∀ F : zF, (∀ p ∈ ps, zap F p.1 = some p.2) → op F F k i st lo M X = some r
theorem zfin0 {G : zF} {r : zR} {g : zF → Option zR} (h : ∀ F, g F = some r) : ∃ ps : List (zA × zR), (∀ p ∈ ps, zap G p.1 = some p.2) ∧ ∀ F : zF, (∀ p ∈ ps, zap F p.1 = some p.2) → g F = some r :=
  ⟨[], fun p hp => absurd hp List.not_mem_nil, fun F _ => h F⟩
theorem zfin1 {G : zF} {r : zR} {g : zF → Option zR} {a b : Nat} {st lo : List zV} {M : zM} {X : zX} (h : G a b st lo M X = some r) (hg : ∀ F : zF, F a b st lo M X = some r → g F = some r) : ∃ ps : List (zA × zR), (∀ p ∈ ps, zap G p.1 = some p.2) ∧ ∀ F : zF, (∀ p ∈ ps, zap F p.1 = some p.2) → g F = some r :=
  ⟨[((a, b, st, lo, M, X), r)], fun p hp => by rw [List.mem_singleton.mp hp]; exact h, fun F hF => hg F (hF _ List.mem_cons_self)⟩
theorem zfin2 {G : zF} {r r1 : zR} {g : zF → Option zR} {a b a1 b1 : Nat} {st lo st1 lo1 : List zV} {M M1 : zM} {X X1 : zX} (h1 : G a1 b1 st1 lo1 M1 X1 = some r1) (h : G a b st lo M X = some r) (hg : ∀ F : zF, F a1 b1 st1 lo1 M1 X1 = some r1 → F a b st lo M X = some r → g F = some r) : ∃ ps : List (zA × zR), (∀ p ∈ ps, zap G p.1 = some p.2) ∧ ∀ F : zF, (∀ p ∈ ps, zap F p.1 = some p.2) → g F = some r :=
  ⟨[((a1, b1, st1, lo1, M1, X1), r1), ((a, b, st, lo, M, X), r)], fun p hp => by
    rcases List.mem_cons.mp hp with rfl | hp
    · exact h1
    · rw [List.mem_singleton.mp hp]; exact h, fun F hF => hg F (hF _ List.mem_cons_self) (hF _ (List.mem_cons_of_mem _ List.mem_cons_self))⟩
theorem zg_pos {α : Type} {c : Prop} {d : Decidable c} {x : Option α} (h : c) : zg c x = x := if_pos h
theorem fin_stuck : zFin zo_stuck := by
  intro G k i st lo M X r h
  cases h
theorem fin_push {t : Nat} {v : Int} : zFin (zo_push t v) := by
  intro G k i st lo M X r h
  exact zfin1 h (fun F hF => hF)
theorem fin_gets {a : Nat} : zFin (zo_gets a) := by
  intro G k i st lo M X r h
  exact zfin1 h (fun F hF => hF)
theorem fin_goto {t : Nat} : zFin (zo_goto t) := by
  intro G k i st lo M X r h
  exact zfin1 h (fun F hF => hF)
theorem fin_ld {t a : Nat} : zFin (zo_ld t a) := by
  intro G k i st lo M X r h
  obtain ⟨v, hv, h⟩ := zld h
  refine zfin1 h (fun F hF => ?_)
  unfold zo_ld
  rw [hv]
  (try dsimp only)
  rw [show Nat.beq t t = true from Nat.beq_refl t]
  exact hF
theorem fin_st {t a : Nat} : zFin (zo_st t a) := by
  intro G k i st lo M X r h
  obtain ⟨v, st', rfl, hl, h⟩ := zstv h
  refine zfin1 h (fun F hF => ?_)
  unfold zo_st
  (try dsimp only)
  rw [show Nat.beq t t = true from Nat.beq_refl t, show Nat.blt a lo.length = true by simpa [Nat.blt_eq] using hl]
  exact hF
theorem fin_lst {a : Nat} : zFin (zo_lst a) := by
  intro G k i st lo M X r h
  unfold zo_lst at h
  split at h
  · split at h
    · rename_i hb
      refine zfin1 h (fun F hF => ?_)
      unfold zo_lst
      (try dsimp only)
      rw [hb]
      exact hF
    · cases h
  · cases h
theorem fin_iinc {a : Nat} {n : Int} : zFin (zo_iinc a n) := by
  intro G k i st lo M X r h
  unfold zo_iinc at h
  split at h
  · rename_i v hv
    obtain ⟨hc, h⟩ := zg_some h
    refine zfin1 h (fun F hF => ?_)
    unfold zo_iinc
    rw [hv]
    exact (zg_pos hc).trans hF
  · cases h

theorem fin_iadd : zFin (zo_iadd) := by
  intro G k i st lo M X r h
  unfold zo_iadd zo_bin at h
  split at h
  · obtain ⟨hc, h⟩ := zg_some h
    refine zfin1 h (fun F hF => ?_)
    exact (zg_pos hc).trans hF
  · cases h

theorem fin_isub : zFin (zo_isub) := by
  intro G k i st lo M X r h
  unfold zo_isub zo_bin at h
  split at h
  · obtain ⟨hc, h⟩ := zg_some h
    refine zfin1 h (fun F hF => ?_)
    exact (zg_pos hc).trans hF
  · cases h

theorem fin_imul : zFin (zo_imul) := by
  intro G k i st lo M X r h
  unfold zo_imul zo_bin at h
  split at h
  · obtain ⟨hc, h⟩ := zg_some h
    refine zfin1 h (fun F hF => ?_)
    exact (zg_pos hc).trans hF
  · cases h

theorem fin_idiv : zFin (zo_idiv) := by
  intro G k i st lo M X r h
  unfold zo_idiv at h
  split at h
  · obtain ⟨hc, h⟩ := zg_some h
    refine zfin1 h (fun F hF => ?_)
    exact (zg_pos hc).trans hF
  · cases h

theorem fin_irem : zFin (zo_irem) := by
  intro G k i st lo M X r h
  unfold zo_irem at h
  split at h
  · obtain ⟨hc, h⟩ := zg_some h
    refine zfin1 h (fun F hF => ?_)
    exact (zg_pos hc).trans hF
  · cases h

theorem fin_iand : zFin (zo_iand) := by
  intro G k i st lo M X r h
  unfold zo_iand at h
  split at h
  · obtain ⟨hc, h⟩ := zg_some h
    refine zfin1 h (fun F hF => ?_)
    exact (zg_pos hc).trans hF
  · cases h

theorem fin_lmul : zFin (zo_lmul) := by
  intro G k i st lo M X r h
  unfold zo_lmul at h
  split at h
  · obtain ⟨hc, h⟩ := zg_some h
    refine zfin1 h (fun F hF => ?_)
    exact (zg_pos hc).trans hF
  · cases h

theorem fin_ineg : zFin (zo_ineg) := by
  intro G k i st lo M X r h
  unfold zo_ineg at h
  split at h
  · obtain ⟨hc, h⟩ := zg_some h
    refine zfin1 h (fun F hF => ?_)
    exact (zg_pos hc).trans hF
  · cases h

theorem fin_ixor : zFin (zo_ixor) := by
  intro G k i st lo M X r h
  unfold zo_ixor at h
  split at h
  · refine zfin1 h (fun F hF => ?_)
    unfold zo_ixor
    exact hF
  · cases h

theorem fin_land : zFin (zo_land) := by
  intro G k i st lo M X r h
  unfold zo_land at h
  split at h
  · refine zfin1 h (fun F hF => ?_)
    unfold zo_land
    exact hF
  · cases h

theorem fin_lor : zFin (zo_lor) := by
  intro G k i st lo M X r h
  unfold zo_lor at h
  split at h
  · refine zfin1 h (fun F hF => ?_)
    unfold zo_lor
    exact hF
  · cases h

theorem fin_lshl : zFin (zo_lshl) := by
  intro G k i st lo M X r h
  unfold zo_lshl at h
  split at h
  · refine zfin1 h (fun F hF => ?_)
    unfold zo_lshl
    exact hF
  · cases h

theorem fin_lcmp : zFin (zo_lcmp) := by
  intro G k i st lo M X r h
  unfold zo_lcmp at h
  split at h
  · refine zfin1 h (fun F hF => ?_)
    unfold zo_lcmp
    exact hF
  · cases h

theorem fin_i2l : zFin (zo_i2l) := by
  intro G k i st lo M X r h
  unfold zo_i2l at h
  split at h
  · refine zfin1 h (fun F hF => ?_)
    unfold zo_i2l
    exact hF
  · cases h

theorem fin_l2i : zFin (zo_l2i) := by
  intro G k i st lo M X r h
  unfold zo_l2i at h
  split at h
  · refine zfin1 h (fun F hF => ?_)
    unfold zo_l2i
    exact hF
  · cases h

theorem fin_i2b : zFin (zo_i2b) := by
  intro G k i st lo M X r h
  unfold zo_i2b at h
  split at h
  · refine zfin1 h (fun F hF => ?_)
    unfold zo_i2b
    exact hF
  · cases h

theorem fin_i2s : zFin (zo_i2s) := by
  intro G k i st lo M X r h
  unfold zo_i2s at h
  split at h
  · refine zfin1 h (fun F hF => ?_)
    unfold zo_i2s
    exact hF
  · cases h

theorem fin_dup2 : zFin (zo_dup2) := by
  intro G k i st lo M X r h
  unfold zo_dup2 at h
  split at h
  · refine zfin1 h (fun F hF => ?_)
    unfold zo_dup2
    exact hF
  · cases h

theorem fin_dup : zFin zo_dup := by
  intro G k i st lo M X r h
  unfold zo_dup at h
  split at h
  · exact zfin1 h (fun F hF => hF)
  · exact zfin1 h (fun F hF => hF)
  · cases h

theorem fin_getI {ci : Nat} {j : Int} : zFin (zo_getI ci j) := by
  intro G k i st lo M X r h
  unfold zo_getI at h
  split at h
  · obtain ⟨hc, h⟩ := zg_some h
    refine zfin1 h (fun F hF => ?_)
    exact (zg_pos hc).trans hF
  · cases h

theorem fin_getR {ci : Nat} {j : Int} : zFin (zo_getR ci j) := by
  intro G k i st lo M X r h
  unfold zo_getR at h
  split at h
  · obtain ⟨hc, h⟩ := zg_some h
    refine zfin1 h (fun F hF => ?_)
    exact (zg_pos hc).trans hF
  · cases h

theorem fin_putI {ci : Nat} {j : Int} : zFin (zo_putI ci j) := by
  intro G k i st lo M X r h
  unfold zo_putI at h
  split at h
  · obtain ⟨hc, h⟩ := zg_some h
    refine zfin1 h (fun F hF => ?_)
    exact (zg_pos hc).trans hF
  · cases h

theorem fin_putZ {ci : Nat} {j : Int} : zFin (zo_putZ ci j) := by
  intro G k i st lo M X r h
  unfold zo_putZ at h
  split at h
  · obtain ⟨hc, h⟩ := zg_some h
    refine zfin1 h (fun F hF => ?_)
    exact (zg_pos hc).trans hF
  · cases h

theorem fin_putR {ci : Nat} {j : Int} : zFin (zo_putR ci j) := by
  intro G k i st lo M X r h
  unfold zo_putR at h
  split at h
  · obtain ⟨hc, h⟩ := zg_some h
    refine zfin1 h (fun F hF => ?_)
    exact (zg_pos hc).trans hF
  · cases h

theorem fin_iald : zFin (zo_iald) := by
  intro G k i st lo M X r h
  unfold zo_iald at h
  split at h
  · obtain ⟨hc, h⟩ := zg_some h
    refine zfin1 h (fun F hF => ?_)
    exact (zg_pos hc).trans hF
  · cases h

theorem fin_lald : zFin (zo_lald) := by
  intro G k i st lo M X r h
  unfold zo_lald at h
  split at h
  · obtain ⟨hc, h⟩ := zg_some h
    refine zfin1 h (fun F hF => ?_)
    exact (zg_pos hc).trans hF
  · cases h

theorem fin_bald : zFin (zo_bald) := by
  intro G k i st lo M X r h
  unfold zo_bald at h
  split at h
  · obtain ⟨hc, h⟩ := zg_some h
    refine zfin1 h (fun F hF => ?_)
    exact (zg_pos hc).trans hF
  · cases h

theorem fin_iast : zFin (zo_iast) := by
  intro G k i st lo M X r h
  unfold zo_iast at h
  split at h
  · obtain ⟨hc, h⟩ := zg_some h
    refine zfin1 h (fun F hF => ?_)
    exact (zg_pos hc).trans hF
  · cases h

theorem fin_last : zFin (zo_last) := by
  intro G k i st lo M X r h
  unfold zo_last at h
  split at h
  · obtain ⟨hc, h⟩ := zg_some h
    refine zfin1 h (fun F hF => ?_)
    exact (zg_pos hc).trans hF
  · cases h

theorem fin_bast : zFin (zo_bast) := by
  intro G k i st lo M X r h
  unfold zo_bast at h
  split at h
  · obtain ⟨hc, h⟩ := zg_some h
    refine zfin1 h (fun F hF => ?_)
    exact (zg_pos hc).trans hF
  · cases h

theorem fin_slen : zFin (zo_slen) := by
  intro G k i st lo M X r h
  unfold zo_slen at h
  split at h
  · obtain ⟨hc, h⟩ := zg_some h
    refine zfin1 h (fun F hF => ?_)
    exact (zg_pos hc).trans hF
  · cases h

theorem fin_newa {t : Nat} : zFin (zo_newa t) := by
  intro G k i st lo M X r h
  unfold zo_newa at h
  split at h
  · obtain ⟨hc, h⟩ := zg_some h
    refine zfin1 h (fun F hF => ?_)
    exact (zg_pos hc).trans hF
  · cases h

theorem fin_mnew : zFin (zo_mnew) := by
  intro G k i st lo M X r h
  unfold zo_mnew at h
  split at h
  · obtain ⟨hc, h⟩ := zg_some h
    refine zfin1 h (fun F hF => ?_)
    exact (zg_pos hc).trans hF
  · cases h

theorem fin_sald {a : Nat} : zFin (zo_sald a) := by
  intro G k i st lo M X r h
  unfold zo_sald at h
  split at h
  · obtain ⟨hc, h⟩ := zg_some h
    refine zfin1 h (fun F hF => ?_)
    exact (zg_pos hc).trans hF
  · cases h

theorem fin_aald {t : Nat} : zFin (zo_aald t) := by
  intro G k i st lo M X r h
  unfold zo_aald at h
  split at h
  · obtain ⟨hc, h⟩ := zg_some h
    refine zfin1 h (fun F hF => ?_)
    exact (zg_pos hc).trans hF
  · cases h

theorem fin_aast {t ci : Nat} : zFin (zo_aast t ci) := by
  intro G k i st lo M X r h
  unfold zo_aast at h
  split at h
  · obtain ⟨hc, h⟩ := zg_some h
    refine zfin1 h (fun F hF => ?_)
    exact (zg_pos hc).trans hF
  · cases h

theorem fin_alen {t : Nat} : zFin (zo_alen t) := by
  intro G k i st lo M X r h
  unfold zo_alen at h
  split at h
  · obtain ⟨hc, h⟩ := zg_some h
    refine zfin1 h (fun F hF => ?_)
    exact (zg_pos hc).trans hF
  · cases h

theorem fin_new {ci nf : Nat} : zFin (zo_new ci nf) := by
  intro G k i st lo M X r h
  unfold zo_new at h
  obtain ⟨hc, h⟩ := zg_some h
  refine zfin1 h (fun F hF => ?_)
  exact (zg_pos hc).trans hF
theorem fin_objinit : zFin zo_objinit := by
  intro G k i st lo M X r h
  unfold zo_objinit at h
  split at h
  · split at h
    · rename_i hb
      refine zfin1 h (fun F hF => ?_)
      simp only [zo_objinit, hb]
      exact hF
    · cases h
  · cases h
theorem fin_acpy {t : Nat} : zFin (zo_acpy t) := by
  intro G k i st lo M X r h
  unfold zo_acpy at h
  split at h
  · obtain ⟨hc, h⟩ := zg_some h
    split at h
    · rename_i hb
      refine zfin1 h (fun F hF => ?_)
      refine (zg_pos hc).trans ?_
      rw [hb]
      exact hF
    · cases h
  · cases h
theorem fin_lsw {ps : List (Int × Nat)} {d : Nat} : zFin (zo_lsw ps d) := by
  intro G k i st lo M X r h
  unfold zo_lsw at h
  split at h
  · rename_i v st
    have key : ∀ (ps : List (Int × Nat)), zlsw (fun t => G k t st lo M X) v ps d = some r → ∃ t, G k t st lo M X = some r ∧ ∀ F : zF, F k t st lo M X = some r → zlsw (fun t => F k t st lo M X) v ps d = some r := by
      intro ps
      induction ps with
      | nil => intro h; exact ⟨d, h, fun F hF => hF⟩
      | cons q ps ih =>
        intro h
        obtain ⟨x, t⟩ := q
        unfold zlsw at h ⊢
        by_cases hx : v = x
        · rw [if_pos hx] at h
          exact ⟨t, h, fun F hF => by rw [if_pos hx]; exact hF⟩
        · rw [if_neg hx] at h
          obtain ⟨t', h1, h2⟩ := ih h
          exact ⟨t', h1, fun F hF => by rw [if_neg hx]; exact h2 F hF⟩
    obtain ⟨t, h1, h2⟩ := key ps h
    exact zfin1 h1 (fun F hF => h2 F hF)
  · cases h

theorem fin_ifeq {t : Nat} : zFin (zo_ifeq t) := by
  intro G k i st lo M X r h
  unfold zo_ifeq at h
  split at h
  · split at h
    · rename_i hc
      refine zfin1 h (fun F hF => ?_)
      exact (if_pos hc).trans hF
    · rename_i hc
      refine zfin1 h (fun F hF => ?_)
      exact (if_neg hc).trans hF
  · cases h

theorem fin_iceq {t : Nat} : zFin (zo_iceq t) := by
  intro G k i st lo M X r h
  unfold zo_iceq at h
  split at h
  · split at h
    · rename_i hc
      refine zfin1 h (fun F hF => ?_)
      exact (if_pos hc).trans hF
    · rename_i hc
      refine zfin1 h (fun F hF => ?_)
      exact (if_neg hc).trans hF
  · cases h

theorem fin_ifne {t : Nat} : zFin (zo_ifne t) := by
  intro G k i st lo M X r h
  unfold zo_ifne at h
  split at h
  · split at h
    · rename_i hc
      refine zfin1 h (fun F hF => ?_)
      exact (if_pos hc).trans hF
    · rename_i hc
      refine zfin1 h (fun F hF => ?_)
      exact (if_neg hc).trans hF
  · cases h

theorem fin_icne {t : Nat} : zFin (zo_icne t) := by
  intro G k i st lo M X r h
  unfold zo_icne at h
  split at h
  · split at h
    · rename_i hc
      refine zfin1 h (fun F hF => ?_)
      exact (if_pos hc).trans hF
    · rename_i hc
      refine zfin1 h (fun F hF => ?_)
      exact (if_neg hc).trans hF
  · cases h

theorem fin_iflt {t : Nat} : zFin (zo_iflt t) := by
  intro G k i st lo M X r h
  unfold zo_iflt at h
  split at h
  · split at h
    · rename_i hc
      refine zfin1 h (fun F hF => ?_)
      exact (if_pos hc).trans hF
    · rename_i hc
      refine zfin1 h (fun F hF => ?_)
      exact (if_neg hc).trans hF
  · cases h

theorem fin_iclt {t : Nat} : zFin (zo_iclt t) := by
  intro G k i st lo M X r h
  unfold zo_iclt at h
  split at h
  · split at h
    · rename_i hc
      refine zfin1 h (fun F hF => ?_)
      exact (if_pos hc).trans hF
    · rename_i hc
      refine zfin1 h (fun F hF => ?_)
      exact (if_neg hc).trans hF
  · cases h

theorem fin_ifge {t : Nat} : zFin (zo_ifge t) := by
  intro G k i st lo M X r h
  unfold zo_ifge at h
  split at h
  · split at h
    · rename_i hc
      refine zfin1 h (fun F hF => ?_)
      exact (if_pos hc).trans hF
    · rename_i hc
      refine zfin1 h (fun F hF => ?_)
      exact (if_neg hc).trans hF
  · cases h

theorem fin_icge {t : Nat} : zFin (zo_icge t) := by
  intro G k i st lo M X r h
  unfold zo_icge at h
  split at h
  · split at h
    · rename_i hc
      refine zfin1 h (fun F hF => ?_)
      exact (if_pos hc).trans hF
    · rename_i hc
      refine zfin1 h (fun F hF => ?_)
      exact (if_neg hc).trans hF
  · cases h

theorem fin_ifgt {t : Nat} : zFin (zo_ifgt t) := by
  intro G k i st lo M X r h
  unfold zo_ifgt at h
  split at h
  · split at h
    · rename_i hc
      refine zfin1 h (fun F hF => ?_)
      exact (if_pos hc).trans hF
    · rename_i hc
      refine zfin1 h (fun F hF => ?_)
      exact (if_neg hc).trans hF
  · cases h

theorem fin_icgt {t : Nat} : zFin (zo_icgt t) := by
  intro G k i st lo M X r h
  unfold zo_icgt at h
  split at h
  · split at h
    · rename_i hc
      refine zfin1 h (fun F hF => ?_)
      exact (if_pos hc).trans hF
    · rename_i hc
      refine zfin1 h (fun F hF => ?_)
      exact (if_neg hc).trans hF
  · cases h

theorem fin_ifle {t : Nat} : zFin (zo_ifle t) := by
  intro G k i st lo M X r h
  unfold zo_ifle at h
  split at h
  · split at h
    · rename_i hc
      refine zfin1 h (fun F hF => ?_)
      exact (if_pos hc).trans hF
    · rename_i hc
      refine zfin1 h (fun F hF => ?_)
      exact (if_neg hc).trans hF
  · cases h

theorem fin_icle {t : Nat} : zFin (zo_icle t) := by
  intro G k i st lo M X r h
  unfold zo_icle at h
  split at h
  · split at h
    · rename_i hc
      refine zfin1 h (fun F hF => ?_)
      exact (if_pos hc).trans hF
    · rename_i hc
      refine zfin1 h (fun F hF => ?_)
      exact (if_neg hc).trans hF
  · cases h

theorem fin_callI {c n nl : Nat} : zFin (zo_callI c n nl) := by
  intro G k i st lo M X r h
  unfold zo_callI at h
  split at h
  · rename_i hb
    obtain ⟨v, M1, X1, h1, h2⟩ := zbI_some h
    refine zfin2 h1 h2 (fun F hF1 hF2 => ?_)
    unfold zo_callI
    rw [hb]
    (try dsimp only)
    rw [hF1]
    exact hF2
  · cases h
theorem fin_vcallI {c n nl kd : Nat} : zFin (zo_vcallI c n nl kd) := by
  intro G k i st lo M X r h
  unfold zo_vcallI at h
  split at h
  · rename_i hb
    obtain ⟨hc, h⟩ := zg_some h
    obtain ⟨v, M1, X1, h1, h2⟩ := zbI_some h
    refine zfin2 h1 h2 (fun F hF1 hF2 => ?_)
    unfold zo_vcallI
    rw [hb]
    (try dsimp only)
    rw [zg_pos hc, hF1]
    exact hF2
  · cases h

theorem fin_callL {c n nl : Nat} : zFin (zo_callL c n nl) := by
  intro G k i st lo M X r h
  unfold zo_callL at h
  split at h
  · rename_i hb
    obtain ⟨v, M1, X1, h1, h2⟩ := zbL_some h
    refine zfin2 h1 h2 (fun F hF1 hF2 => ?_)
    unfold zo_callL
    rw [hb]
    (try dsimp only)
    rw [hF1]
    exact hF2
  · cases h
theorem fin_vcallL {c n nl kd : Nat} : zFin (zo_vcallL c n nl kd) := by
  intro G k i st lo M X r h
  unfold zo_vcallL at h
  split at h
  · rename_i hb
    obtain ⟨hc, h⟩ := zg_some h
    obtain ⟨v, M1, X1, h1, h2⟩ := zbL_some h
    refine zfin2 h1 h2 (fun F hF1 hF2 => ?_)
    unfold zo_vcallL
    rw [hb]
    (try dsimp only)
    rw [zg_pos hc, hF1]
    exact hF2
  · cases h

theorem fin_callN {c n nl : Nat} : zFin (zo_callN c n nl) := by
  intro G k i st lo M X r h
  unfold zo_callN at h
  split at h
  · rename_i hb
    obtain ⟨v, M1, X1, h1, h2⟩ := zbN_some h
    refine zfin2 h1 h2 (fun F hF1 hF2 => ?_)
    unfold zo_callN
    rw [hb]
    (try dsimp only)
    rw [hF1]
    exact hF2
  · cases h
theorem fin_vcallN {c n nl kd : Nat} : zFin (zo_vcallN c n nl kd) := by
  intro G k i st lo M X r h
  unfold zo_vcallN at h
  split at h
  · rename_i hb
    obtain ⟨hc, h⟩ := zg_some h
    obtain ⟨v, M1, X1, h1, h2⟩ := zbN_some h
    refine zfin2 h1 h2 (fun F hF1 hF2 => ?_)
    unfold zo_vcallN
    rw [hb]
    (try dsimp only)
    rw [zg_pos hc, hF1]
    exact hF2
  · cases h

theorem fin_iret : zFin zo_iret := by
  intro G k i st lo M X r h
  unfold zo_iret at h
  split at h
  · exact zfin0 (fun F => h)
  · cases h

theorem fin_lret : zFin zo_lret := by
  intro G k i st lo M X r h
  unfold zo_lret at h
  split at h
  · exact zfin0 (fun F => h)
  · cases h

theorem fin_ret : zFin zo_ret := by
  intro G k i st lo M X r h
  unfold zo_ret at h
  split at h
  · exact zfin0 (fun F => h)
  · cases h

theorem fin_zret : zFin zo_zret := by
  intro G k i st lo M X r h
  unfold zo_zret at h
  split at h
  · exact zfin0 (fun F => h)
  · cases h
theorem fin_throw {e j : Nat} : zFin (zo_throw e j) := by
  intro G k i st lo M X r h
  unfold zo_throw at h
  split at h
  · exact zfin0 (fun F => h)
  · cases h
theorem fin_tcall {c n nl kd rt h1 h2 ea : Nat} : zFin (zo_tcall c n nl kd rt h1 h2 ea) := by
  intro G k i st lo M X r h
  unfold zo_tcall at h
  split at h
  · rename_i hb
    obtain ⟨hc, h⟩ := zg_some h
    rcases zbT_some h with ⟨v, M1, X1, e1, e2⟩ | ⟨v, M1, X1, h8, e1, e2⟩
    · by_cases hv : v < 2000
      · rw [if_pos hv] at e2
        cases h1 with
        | zero => cases e2
        | succ h1 =>
          refine zfin2 e1 e2 (fun F hF1 hF2 => ?_)
          unfold zo_tcall
          rw [hb]
          (try dsimp only)
          rw [zg_pos hc, hF1]
          show (if v < 2000 then _ else _) = _
          rw [if_pos hv]
          exact hF2
      · rw [if_neg hv] at e2
        refine zfin2 e1 e2 (fun F hF1 hF2 => ?_)
        unfold zo_tcall
        rw [hb]
        (try dsimp only)
        rw [zg_pos hc, hF1]
        show (if v < 2000 then _ else _) = _
        rw [if_neg hv]
        exact hF2
    · cases hbeq : Nat.beq v.1 rt with
      | false => rw [hbeq] at e2; cases e2
      | true =>
        rw [hbeq] at e2
        obtain ⟨t, y⟩ := v
        have hz : ∀ (g : zV → zM → zX → Option zR) (h : Int → zM → zX → Option zR), zbT (some ((t, y), M1, X1)) g h = g (t, y) M1 X1 := by
          intro g h
          unfold zbT
          split
          · rename_i q; cases q; exact absurd rfl h8
          · rename_i q; cases q; rfl
          · rename_i q; cases q
        split at e2
        · refine zfin2 e1 e2 (fun F hF1 hF2 => ?_)
          unfold zo_tcall
          rw [hb]
          (try dsimp only)
          rw [zg_pos hc, hF1, hz, hbeq]
          exact hF2
        · rename_i h9 _
          refine zfin2 e1 e2 (fun F hF1 hF2 => ?_)
          unfold zo_tcall
          rw [hb]
          (try dsimp only)
          rw [zg_pos hc, hF1, hz, hbeq]
          split
          · rename_i q; exact absurd rfl h9
          · exact hF2
          · contradiction
        · contradiction
  · cases h
