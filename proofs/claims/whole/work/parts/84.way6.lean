/-! WAYS: far is bounded, and every write makes it less -/
theorem zsm_at {f g : Int → Int} {c : Int} (h : ∀ t, t ≠ c → g t = f t) : ∀ (n : Nat) (i : Int), i ≤ c → c < i + n → zsm g i n = zsm f i n + g c - f c
  | 0, i, h1, h2 => by omega
  | n + 1, i, h1, h2 => by
    unfold zsm
    by_cases e : i = c
    · subst e
      have := zsm_congr (f := g) (g := f) n (i + 1) (i + 1) (fun k k0 _ => h _ (by omega))
      omega
    · have := zsm_at h n (i + 1) (by omega) (by omega)
      have := h i e
      omega
def zrn0 (f : Int → Int) : Int → Int := fun t => if f t = -1 then 0 else 1
def zme (f : Int → Int) : Int → Int := fun t => if f t = -1 then 131073 else f t
theorem zrn0_le {f : Int → Int} : 0 ≤ zsm (zrn0 f) 0 4096 ∧ zsm (zrn0 f) 0 4096 ≤ 4096 := by
  have := zsm_le (f := zrn0 f) (a := 0) (b := 1) 4096 0 (fun k _ _ => by unfold zrn0; split <;> omega)
  omega
theorem zfx_b {b : Int → Int} {h : Int} {g : Int → Prop} {f : Int → Int} {s m : Int} (hh : 1 ≤ h ∧ h ≤ 8) (H : zfi b h g f) (hs : 0 ≤ s ∧ s < 4096) (hB : ∀ t, f t ≤ 32 * zsm (zrn0 f) 0 4096) (hR : zrx b h f s m) : (∀ t, zfx b h f s m t ≤ 32 * zsm (zrn0 (zfx b h f s m)) 0 4096) ∧ zsm (zme (zfx b h f s m)) 0 4096 < zsm (zme f) 0 4096 := by
  have p1 := zpm_le (m := m) hh
  have v1 := hB (zmv b s m)
  have v2 := H.1 (zmv b s m)
  have fs : zfx b h f s m s = f (zmv b s m) + zpm h m := by
    unfold zfx
    rw [if_pos hR]
    exact if_pos rfl
  have fo : ∀ t, t ≠ s → zfx b h f s m t = f t := fun t ht => by
    unfold zfx
    rw [if_pos hR]
    exact if_neg ht
  obtain ⟨e1, e2, e3⟩ := hR
  generalize zfx b h f s m = F at fs fo
  have a1 := zsm_at (f := zrn0 f) (g := zrn0 F) (c := s) (fun t ht => by unfold zrn0; rw [fo t ht]) 4096 0 hs.1 (by omega)
  have a2 := zsm_at (f := zme f) (g := zme F) (c := s) (fun t ht => by unfold zme; rw [fo t ht]) 4096 0 hs.1 (by omega)
  have b1 : zrn0 F s = 1 := if_neg (by omega)
  have b2 : zme F s = f (zmv b s m) + zpm h m := by
    rw [← fs]
    exact if_neg (by omega)
  have l := zrn0_le (f := f)
  have l2 := zrn0_le (f := F)
  have hs2 := hB s
  rw [b1] at a1
  rw [b2] at a2
  by_cases e : f s = -1
  · have c1 : zrn0 f s = 0 := if_pos e
    have c2 : zme f s = 131073 := if_pos e
    rw [c1] at a1
    rw [c2] at a2
    refine ⟨fun t => ?_, by omega⟩
    have := hB t
    by_cases et : t = s
    · rw [et, fs]; omega
    · rw [fo t et]; omega
  · have c1 : zrn0 f s = 1 := if_neg e
    have c2 : zme f s = f s := if_neg e
    rw [c1] at a1
    rw [c2] at a2
    have e4 := e3.resolve_left e
    refine ⟨fun t => ?_, by omega⟩
    have := hB t
    by_cases et : t = s
    · rw [et, fs]; omega
    · rw [fo t et]; omega
