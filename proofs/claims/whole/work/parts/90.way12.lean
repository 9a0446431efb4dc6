/-! WAYS: far at the opposite quarter; the class's states -/
/-- the opposite quarter; the move that does there the same -/
def zsw (s : Int) : Int := s - s % 4 + (s % 4 + 2) % 4
def zsn (m : Int) : Int := if m ≤ 1 then 1 - m else m
theorem zax_sw {q : Int} (hq : 0 ≤ q ∧ q ≤ 3) : zax ((q + 2) % 4) = - zax q ∧ zay ((q + 2) % 4) = - zay q := by
  have : q = 0 ∨ q = 1 ∨ q = 2 ∨ q = 3 := by omega
  rcases this with rfl | rfl | rfl | rfl <;> exact ⟨by decide, by decide⟩
theorem zmd_sn {m : Int} (hm : 0 ≤ m ∧ m ≤ 1) : zmd (1 - m) = - zmd m := by
  have : m = 0 ∨ m = 1 := by omega
  rcases this with rfl | rfl <;> decide
theorem zsw_4 (s : Int) : zsw s / 4 = s / 4 ∧ zsw s % 4 = (s % 4 + 2) % 4 := by unfold zsw; omega
theorem zsw_sw (s : Int) : zsw (zsw s) = s := by
  have a := zsw_4 s
  have e : zsw (zsw s) = zsw s - zsw s % 4 + (zsw s % 4 + 2) % 4 := rfl
  omega
theorem zpm_sn {h m : Int} (hm : 0 ≤ m) : zpm h (zsn m) = zpm h m := by
  unfold zpm zsn
  by_cases e : m ≤ 1
  · rw [if_pos e, if_neg (by omega), if_neg (by omega)]
  · rw [if_neg e]
theorem zmv_sw {b : Int → Int} {s m : Int} (hm : 0 ≤ m ∧ m ≤ 3) (hv : zmv b s m ≠ -1) : zmv b (zsw s) (zsn m) = zsw (zmv b s m) := by
  obtain ⟨s1, s2⟩ := zsw_4 s
  obtain ⟨a1, a2⟩ := zax_sw (q := s % 4) (by omega)
  unfold zmv at hv ⊢
  rw [s1, s2]
  by_cases e : m ≤ 1
  · have e2 : zsn m = 1 - m := if_pos e
    rw [if_pos e] at hv ⊢
    rw [e2, if_pos (by omega), zmd_sn ⟨hm.1, e⟩, a1, a2, Int.neg_mul_neg, Int.neg_mul_neg]
    by_cases f : zfr b (s / 4 % 32 + zmd m * zax (s % 4)) (s / 4 / 32 + zmd m * zay (s % 4))
    · rw [if_pos f, if_pos f]
      generalize zmd m * zax (s % 4) = dx
      generalize zmd m * zay (s % 4) = dy
      unfold zsw
      omega
    · rw [if_neg f] at hv
      exact absurd rfl hv
  · have e2 : zsn m = m := if_neg e
    rw [if_neg e, e2, if_neg e]
    unfold zsw
    split <;> omega
theorem zfsw_le {b : Int → Int} {h x y : Int} {F : Int → Int} (hh : 1 ≤ h ∧ h ≤ 8) (hr : ∀ t, F t ≠ -1 → (0 ≤ t ∧ t < 4096) ∧ b (t / 4) = 0) (A1 : ∀ t, 0 < F t → ∃ m, (0 ≤ m ∧ m ≤ 3) ∧ zmv b t m ≠ -1 ∧ 0 ≤ F (zmv b t m) ∧ F t = F (zmv b t m) + zpm h m) (A2 : ∀ t m, 0 ≤ t → t < 4096 → b (t / 4) = 0 → 0 ≤ m → m ≤ 3 → zmv b t m ≠ -1 → 0 ≤ F (zmv b t m) → 0 ≤ F t ∧ F t ≤ F (zmv b t m) + zpm h m) (A3 : ∀ t, F t = 0 ↔ zgl b x y t) {t : Int} (ht : 0 ≤ F t) : 0 ≤ F (zsw t) ∧ F (zsw t) ≤ F t := by
  refine zfar_le (F := F) (G := fun t => F (zsw t)) (E := fun t' t c => ∃ m, (0 ≤ m ∧ m ≤ 3) ∧ zmv b t m = t' ∧ t' ≠ -1 ∧ c = zpm h m ∧ (0 ≤ t ∧ t < 4096) ∧ b (t / 4) = 0) ?_ ?_ ?_ (F t).toNat t ht (by omega)
  · intro t ht
    obtain ⟨m, m1, m2, m3, m4⟩ := A1 t ht
    have r := hr t (by omega)
    have p := zpm_le (m := m) hh
    exact ⟨zmv b t m, zpm h m, ⟨m, m1, rfl, m2, rfl, r⟩, by omega, m3, m4⟩
  · intro t ht
    have g := (A3 t).mp ht
    have s := zsw_4 t
    exact (A3 (zsw t)).mpr ⟨by omega, g.2.1, by rw [s.1]; exact g.2.2⟩
  · intro t' t c hG hE
    obtain ⟨m, m1, m2, m3, m4, m5, m6⟩ := hE
    have s := zsw_4 t
    have v := zmv_sw (b := b) (s := t) m1 (by rw [m2]; exact m3)
    have k : 0 ≤ zsn m ∧ zsn m ≤ 3 := by unfold zsn; split <;> omega
    have p := zpm_sn (h := h) m1.1
    rw [m2] at v
    have w := hr (zsw t') (by omega)
    have a := A2 (zsw t) (zsn m) (by omega) (by omega) (by rw [s.1]; exact m6) k.1 k.2 (by rw [v]; omega) (by rw [v]; exact hG)
    rw [v, p] at a
    rw [m4]
    exact a
theorem zfsw {b : Int → Int} {h x y : Int} {F : Int → Int} (hh : 1 ≤ h ∧ h ≤ 8) (h1 : ∀ t, -1 ≤ F t) (hr : ∀ t, F t ≠ -1 → (0 ≤ t ∧ t < 4096) ∧ b (t / 4) = 0) (A1 : ∀ t, 0 < F t → ∃ m, (0 ≤ m ∧ m ≤ 3) ∧ zmv b t m ≠ -1 ∧ 0 ≤ F (zmv b t m) ∧ F t = F (zmv b t m) + zpm h m) (A2 : ∀ t m, 0 ≤ t → t < 4096 → b (t / 4) = 0 → 0 ≤ m → m ≤ 3 → zmv b t m ≠ -1 → 0 ≤ F (zmv b t m) → 0 ≤ F t ∧ F t ≤ F (zmv b t m) + zpm h m) (A3 : ∀ t, F t = 0 ↔ zgl b x y t) (t : Int) : F (zsw t) = F t := by
  have a := h1 t
  have c := h1 (zsw t)
  have e := zsw_sw t
  by_cases k : 0 ≤ F t
  · have k1 := zfsw_le hh hr A1 A2 A3 k
    have k2 := zfsw_le hh hr A1 A2 A3 k1.1
    rw [e] at k2
    omega
  · by_cases k' : 0 ≤ F (zsw t)
    · have k2 := zfsw_le hh hr A1 A2 A3 k'
      rw [e] at k2
      omega
    · omega
/-- the class's state of a state: 2 * cell + axis -/
def zpi (s : Int) : Int := 2 * (s / 4) + s % 2
/-- from either to the other costs w -/
def zad (b : Int → Int) (h c c' w : Int) : Prop := ((0 ≤ c ∧ c < 2048) ∧ b (c / 2) = 0) ∧ ((0 ≤ c' ∧ c' < 2048) ∧ b (c' / 2) = 0) ∧ ((w = 1 ∧ ((c % 2 = 0 ∧ c / 64 = c' / 64 ∧ (c' = c + 2 ∨ c' = c - 2)) ∨ (c % 2 = 1 ∧ (c' = c + 64 ∨ c' = c - 64)))) ∨ (w = 4 * h ∧ c / 2 = c' / 2 ∧ c ≠ c'))
theorem zad.sw {b : Int → Int} {h c c' w : Int} (H : zad b h c c' w) : zad b h c' c w := by
  obtain ⟨h1, h2, h3⟩ := H
  refine ⟨h2, h1, ?_⟩
  rcases h3 with ⟨a, b, c, d⟩ | ⟨a, b, c⟩ | ⟨a, b, c⟩
  all_goals omega
theorem zad_w {b : Int → Int} {h c c' w : Int} (hh : 1 ≤ h ∧ h ≤ 8) (H : zad b h c c' w) : (1 ≤ w ∧ w ≤ 32) ∧ c' ≠ c := by
  obtain ⟨h1, h2, h3⟩ := H
  omega
theorem zdx {q m : Int} (hq : 0 ≤ q ∧ q ≤ 3) (hm : 0 ≤ m ∧ m ≤ 1) : (q % 2 = 0 ∧ zmd m * zay q = 0 ∧ (zmd m * zax q = 1 ∨ zmd m * zax q = -1)) ∨ (q % 2 = 1 ∧ zmd m * zax q = 0 ∧ (zmd m * zay q = 1 ∨ zmd m * zay q = -1)) := by
  have h1 : q = 0 ∨ q = 1 ∨ q = 2 ∨ q = 3 := by omega
  have h2 : m = 0 ∨ m = 1 := by omega
  rcases h1 with rfl | rfl | rfl | rfl <;> rcases h2 with rfl | rfl <;> decide
theorem zad_mv {b : Int → Int} {h s m : Int} (hs : 0 ≤ s ∧ s < 4096) (hb : b (s / 4) = 0) (hm : 0 ≤ m ∧ m ≤ 3) (hv : zmv b s m ≠ -1) : zad b h (zpi s) (zpi (zmv b s m)) (zpm h m) := by
  have p2 : zpi s / 2 = s / 4 := by unfold zpi; omega
  unfold zmv at hv ⊢
  by_cases e : m ≤ 1
  · rw [if_pos e] at hv ⊢
    by_cases f : zfr b (s / 4 % 32 + zmd m * zax (s % 4)) (s / 4 / 32 + zmd m * zay (s % 4))
    · rw [if_pos f]
      obtain ⟨⟨f1, f2⟩, ⟨f3, f4⟩, f5⟩ := f
      have d := zdx (q := s % 4) (m := m) (by omega) ⟨hm.1, e⟩
      have w : zpm h m = 1 := if_neg (by omega)
      rw [w]
      generalize zmd m * zax (s % 4) = dx at d f1 f2 f5 ⊢
      generalize zmd m * zay (s % 4) = dy at d f3 f4 f5 ⊢
      have t4 : zpi (4 * (32 * (s / 4 / 32 + dy) + (s / 4 % 32 + dx)) + s % 4) / 2 = 32 * (s / 4 / 32 + dy) + (s / 4 % 32 + dx) := by unfold zpi; omega
      refine ⟨⟨by unfold zpi; omega, by rw [p2]; exact hb⟩, ⟨by unfold zpi; omega, by rw [t4]; exact f5⟩, .inl ⟨rfl, ?_⟩⟩
      unfold zpi
      rcases d with ⟨d1, d2, d3⟩ | ⟨d1, d2, d3⟩
      · refine .inl ⟨by omega, by omega, ?_⟩
        rcases d3 with d3 | d3 <;> omega
      · refine .inr ⟨by omega, ?_⟩
        rcases d3 with d3 | d3 <;> omega
    · rw [if_neg f] at hv
      exact absurd rfl hv
  · rw [if_neg e]
    have w : zpm h m = 4 * h := if_pos (by omega)
    have k : (if m = 2 then (1 : Int) else 3) = 1 ∨ (if m = 2 then (1 : Int) else 3) = 3 := by split <;> omega
    rw [w]
    generalize (if m = 2 then (1 : Int) else 3) = k' at k ⊢
    have t4 : zpi (s - s % 4 + (s % 4 + k') % 4) / 2 = s / 4 := by unfold zpi; omega
    refine ⟨⟨by unfold zpi; omega, by rw [p2]; exact hb⟩, ⟨by unfold zpi; omega, by rw [t4]; exact hb⟩, .inr ⟨rfl, by rw [p2, t4], ?_⟩⟩
    unfold zpi
    rcases k with k | k <;> omega
theorem zad_to {b : Int → Int} {h c c' w : Int} (H : zad b h c c' w) : ∃ m, (0 ≤ m ∧ m ≤ 3) ∧ zmv b (4 * (c / 2) + c % 2) m ≠ -1 ∧ zpi (zmv b (4 * (c / 2) + c % 2) m) = c' ∧ zpm h m = w := by
  obtain ⟨⟨h1, h2⟩, ⟨h3, h4⟩, h5⟩ := H
  have s1 : (4 * (c / 2) + c % 2) / 4 = c / 2 := by omega
  have s2 : (4 * (c / 2) + c % 2) % 4 = c % 2 := by omega
  have go : ∀ m dx dy : Int, (0 ≤ m ∧ m ≤ 1) → zmd m * zax (c % 2) = dx → zmd m * zay (c % 2) = dy → zfr b (c / 2 % 32 + dx) (c / 2 / 32 + dy) → zpi (4 * (32 * (c / 2 / 32 + dy) + (c / 2 % 32 + dx)) + c % 2) = c' → w = 1 → ∃ m, (0 ≤ m ∧ m ≤ 3) ∧ zmv b (4 * (c / 2) + c % 2) m ≠ -1 ∧ zpi (zmv b (4 * (c / 2) + c % 2) m) = c' ∧ zpm h m = w := fun m dx dy hm h1 h2 h3 h4 h5 => by
    have e : zmv b (4 * (c / 2) + c % 2) m = 4 * (32 * (c / 2 / 32 + dy) + (c / 2 % 32 + dx)) + c % 2 := by
      unfold zmv
      rw [if_pos hm.2, s1, s2, h1, h2, if_pos h3]
    refine ⟨m, by omega, ?_, by rw [e]; exact h4, by rw [h5]; exact if_neg (by omega)⟩
    rw [e]
    obtain ⟨f1, f2, f3⟩ := h3
    omega
  rcases h5 with ⟨w1, ⟨a1, a2, a3⟩ | ⟨a1, a3⟩⟩ | ⟨w1, a1, a2⟩
  · rcases a3 with a3 | a3
    · exact go 0 1 0 (by omega) (by rw [a1]; decide) (by rw [a1]; decide) ⟨by omega, by omega, by rw [show 32 * (c / 2 / 32 + 0) + (c / 2 % 32 + 1) = c' / 2 by omega]; exact h4⟩ (by unfold zpi; omega) w1
    · exact go 1 (-1) 0 (by omega) (by rw [a1]; decide) (by rw [a1]; decide) ⟨by omega, by omega, by rw [show 32 * (c / 2 / 32 + 0) + (c / 2 % 32 + -1) = c' / 2 by omega]; exact h4⟩ (by unfold zpi; omega) w1
  · rcases a3 with a3 | a3
    · exact go 0 0 1 (by omega) (by rw [a1]; decide) (by rw [a1]; decide) ⟨by omega, by omega, by rw [show 32 * (c / 2 / 32 + 1) + (c / 2 % 32 + 0) = c' / 2 by omega]; exact h4⟩ (by unfold zpi; omega) w1
    · exact go 1 0 (-1) (by omega) (by rw [a1]; decide) (by rw [a1]; decide) ⟨by omega, by omega, by rw [show 32 * (c / 2 / 32 + -1) + (c / 2 % 32 + 0) = c' / 2 by omega]; exact h4⟩ (by unfold zpi; omega) w1
  · have e : zmv b (4 * (c / 2) + c % 2) 2 = 4 * (c / 2) + (c % 2 + 1) := by
      unfold zmv
      rw [if_neg (by omega), if_pos rfl]
      omega
    refine ⟨2, by omega, ?_, ?_, ?_⟩
    · rw [e]; omega
    · rw [e]; unfold zpi; omega
    · rw [w1]; exact if_pos (by omega)
/-- D: the shortest distances, on the class's states -/
def zDF (b : Int → Int) (h x y : Int) (D : Int → Int) : Prop := (∀ c, 0 < D c → ∃ c' w, zad b h c c' w ∧ 0 ≤ D c' ∧ D c = D c' + w) ∧ (∀ c c' w, zad b h c c' w → 0 ≤ D c' → 0 ≤ D c ∧ D c ≤ D c' + w) ∧ (∀ c, D c = 0 ↔ (0 ≤ c ∧ c < 2048) ∧ zfr b x y ∧ c / 2 = 32 * y + x) ∧ ∀ c, -1 ≤ D c ∧ D c ≤ 131072 ∧ (D c ≠ -1 → (0 ≤ c ∧ c < 2048) ∧ b (c / 2) = 0)
def zDn (F : Int → Int) (c : Int) : Int := F (4 * (c / 2) + c % 2)
theorem zDF_of {b : Int → Int} {h x y : Int} {F : Int → Int} (hh : 1 ≤ h ∧ h ≤ 8) (h1 : ∀ t, -1 ≤ F t ∧ F t ≤ 131072) (hr : ∀ t, F t ≠ -1 → (0 ≤ t ∧ t < 4096) ∧ b (t / 4) = 0) (A1 : ∀ t, 0 < F t → ∃ m, (0 ≤ m ∧ m ≤ 3) ∧ zmv b t m ≠ -1 ∧ 0 ≤ F (zmv b t m) ∧ F t = F (zmv b t m) + zpm h m) (A2 : ∀ t m, 0 ≤ t → t < 4096 → b (t / 4) = 0 → 0 ≤ m → m ≤ 3 → zmv b t m ≠ -1 → 0 ≤ F (zmv b t m) → 0 ≤ F t ∧ F t ≤ F (zmv b t m) + zpm h m) (A3 : ∀ t, F t = 0 ↔ zgl b x y t) : zDF b h x y (zDn F) ∧ ∀ t, F t = zDn F (zpi t) := by
  have S := zfsw hh (fun t => (h1 t).1) hr A1 A2 A3
  have Q : ∀ t, F t = zDn F (zpi t) := fun t => by
    have e : 4 * (zpi t / 2) + zpi t % 2 = 4 * (t / 4) + t % 2 := by unfold zpi; omega
    unfold zDn
    rw [e]
    by_cases k : t % 4 < 2
    · rw [show 4 * (t / 4) + t % 2 = t by omega]
    · rw [show 4 * (t / 4) + t % 2 = zsw t by unfold zsw; omega, S]
  have L4 : ∀ c : Int, (4 * (c / 2) + c % 2) / 4 = c / 2 := fun c => by omega
  refine ⟨⟨fun c hc => ?_, fun c c' w H hc => ?_, fun c => ?_, fun c => ⟨(h1 _).1, (h1 _).2, fun hc => ?_⟩⟩, Q⟩
  · obtain ⟨m, m1, m2, m3, m4⟩ := A1 _ hc
    have r := hr (4 * (c / 2) + c % 2) (by unfold zDn at hc; omega)
    have a := zad_mv (h := h) r.1 r.2 m1 m2
    rw [show zpi (4 * (c / 2) + c % 2) = c by unfold zpi; omega] at a
    rw [Q] at m3
    refine ⟨_, _, a, m3, ?_⟩
    rw [← Q]
    exact m4
  · obtain ⟨m, m1, m2, m3, m4⟩ := zad_to H
    have k := H.1
    have a := A2 (4 * (c / 2) + c % 2) m (by omega) (by omega) (by rw [L4]; exact k.2) m1.1 m1.2 m2 (by rw [Q, m3]; exact hc)
    rw [Q (zmv b _ m), m3, m4] at a
    exact a
  · have a := A3 (4 * (c / 2) + c % 2)
    unfold zDn
    rw [a]
    unfold zgl
    rw [L4]
    constructor
    · rintro ⟨a1, a2, a3⟩
      exact ⟨by omega, a2, a3⟩
    · rintro ⟨a1, a2, a3⟩
      exact ⟨by omega, a2, a3⟩
  · have r := hr (4 * (c / 2) + c % 2) hc
    rw [L4] at r
    exact ⟨by omega, r.2⟩
theorem e182_D {P : zM} {n m : Nat} {x y : Int} {d3 d4 d5 d6 : zV} (r1 : zPR P) (hh : 1 ≤ P 178 5 ∧ P 178 5 ≤ 8) (hx : -1000000 ≤ x ∧ x ≤ 1000000) (hy : -1000000 ≤ y ∧ y ≤ 1000000) : ∃ P' D, zex 182 0 [] [(2, 178), (0, x), (0, y), d3, d4, d5, d6] P (zKs, n, m) = some ((9, 0), P', (zKs, n, m)) ∧ (∀ r t, r ≠ 216 → P' r t = P r t) ∧ zDF (P 185) (P 178 5) x y D ∧ ∀ t, 0 ≤ t → t < 4096 → P' 216 t = D (zpi t) := by
  obtain ⟨P', a1, ⟨a2, a3⟩, a4, a5, a6⟩ := e182 (n := n) (m := m) (d3 := d3) (d4 := d4) (d5 := d5) (d6 := d6) r1 hh hx hy
  have u3 : P' 185 = P 185 := funext fun t => a4 _ _ (by omega)
  have u4 : P' 178 5 = P 178 5 := a4 _ _ (by omega)
  rw [u3, u4] at a2
  have hr : ∀ t, zfF P' t ≠ -1 → (0 ≤ t ∧ t < 4096) ∧ P 185 (t / 4) = 0 := fun t ht => by
    refine ⟨?_, ?_⟩
    · by_cases k : 0 ≤ t ∧ t < 4096
      · exact k
      · exact absurd (if_neg k) ht
    · by_cases k : P 185 (t / 4) = 0
      · exact k
      · exact absurd (a5 t k) ht
  obtain ⟨A1, A2, A3⟩ := zfix hh a2 hr (fun t t0 t1 tb j j0 j1 => fun c => a6 t t0 t1 tb j j0 j1 ((zrx_F ⟨t0, t1⟩ ⟨j0, j1⟩).mpr c))
  obtain ⟨B1, B2⟩ := zDF_of hh (fun t => ⟨a2.1 t, by have := a3 t; have := zrn0_le (f := zfF P'); omega⟩) hr A1 A2 A3
  exact ⟨P', _, a1, fun r t hrt => a4 r t (.inl hrt), B1, fun t t0 t1 => by rw [← B2, zfF_in ⟨t0, t1⟩]⟩
