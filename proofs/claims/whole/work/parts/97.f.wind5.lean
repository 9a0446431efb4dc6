/-! WINDINGS: a GO, move by move -/
theorem zsm_mono {f g : Int → Int} (h : ∀ k, f k ≤ g k) : ∀ (n : Nat) (i : Int), zsm f i n ≤ zsm g i n
  | 0, i => Int.le_refl _
  | n + 1, i => by
    unfold zsm
    have := zsm_mono h n (i + 1)
    have := h i
    omega
theorem zsm_lt {f g : Int → Int} {c : Int} (h : ∀ k, f k ≤ g k) (hc : f c + 1 ≤ g c) : ∀ (n : Nat) (i : Int), i ≤ c → c < i + n → zsm f i n + 1 ≤ zsm g i n
  | 0, i, h0, h1 => by omega
  | n + 1, i, h0, h1 => by
    unfold zsm
    by_cases e : i = c
    · have := zsm_mono h n (i + 1)
      rw [e] at this ⊢
      omega
    · have := zsm_lt h hc n (i + 1) (by omega) (by omega)
      have := h i
      omega
/-- how many states are nearer than g -/
def zcns (D : Int → Int) (g : Int) : Int := zsm (fun c => if 0 ≤ D c ∧ D c < g then 1 else 0) 0 2048
theorem zcnt_le {D : Int → Int} {g : Int} : 0 ≤ zcns D g ∧ zcns D g ≤ 2048 := by
  have := zsm_le (f := fun c => if 0 ≤ D c ∧ D c < g then (1 : Int) else 0) (a := 0) (b := 1) 2048 0 (fun k _ _ => by split <;> omega)
  unfold zcns
  omega
theorem zcnt_lt {D : Int → Int} {g c : Int} (hc : 0 ≤ c ∧ c < 2048) (h0 : 0 ≤ D c ∧ D c < g) : zcns D (D c) + 1 ≤ zcns D g := by
  refine zsm_lt (c := c) (fun k => ?_) ?_ 2048 0 hc.1 (by omega)
  · by_cases e : 0 ≤ D k ∧ D k < D c
    · rw [if_pos e, if_pos (by omega)]; exact Int.le_refl _
    · rw [if_neg e]; split <;> omega
  · rw [if_neg (by omega), if_pos h0]
    exact Int.le_refl _
theorem r187_no {P : zM} {n m : Nat} {b : Int → Int} {h : Int} {D : Int → Int} {s p k : Int} (r1 : zPR P) (hb : P 185 = b) (hP : P 178 5 = h) (hh : 1 ≤ h ∧ h ≤ 8) (hs : 0 ≤ s ∧ s < 4096) (hF : ∀ t, 0 ≤ t → t < 4096 → P 216 t = D (zpi t)) (hD : ∀ c, -1 ≤ D c ∧ D c ≤ 131072) (hk : 0 ≤ k ∧ k ≤ 3) (no : ¬ zok b h D s k) : zex 187 91 [] [(2, 178), (0, s), (0, p), (0, k)] P (zKs, n, m) = zex 187 91 [] [(2, 178), (0, s), (0, p), (0, k + 1)] P (zKs, n, m) := by
  have c1 := e180 (n := n) (m := m) (d3 := (9, 0)) (d4 := (9, 0)) (d5 := (9, 0)) (d6 := (9, 0)) (d7 := (9, 0)) (d8 := (9, 0)) r1 hs hk
  rw [hb] at c1
  have c2 := e181 (P := P) (n := n) (m := m) (k := k) (by rw [hP]; exact hh)
  rw [hP] at c2
  have f : zex 187 113 [] [(2, 178), (0, s), (0, p), (0, k)] P (zKs, n, m) = zex 187 91 [] [(2, 178), (0, s), (0, p), (0, k + 1)] P (zKs, n, m) := by
    rw [q187_113, zg_pos (by unfold zI; omega)]
  have v := zmv_le (b := b) hs hk
  have w := zpm_le (m := k) hh
  rw [q187_91, zg_pos (zk_178 n m), c1, zbI_ok]
  by_cases e : zmv b s k = -1
  · rw [if_pos e, f]
  · have F1 := hF _ (show 0 ≤ zmv b s k by omega) v.2
    have F2 := hF s hs.1 hs.2
    have d1 := hD (zpi (zmv b s k))
    have ne : ¬ P 216 (zmv b s k) + zpm h k = P 216 s := by
      rw [F1, F2]
      exact fun z => no ⟨e, z⟩
    rw [if_neg e, zg_pos ⟨zk_178 n m, by rw [zp_178_59 r1]; omega⟩, zg_pos (zk_178 n m), c1, zbI_ok, zp_178_59 r1, zg_pos ⟨by rw [zk_216], by omega, by rw [zk_216]; dsimp only; omega⟩, zg_pos (zk_178 n m), c2, zbI_ok, zg_pos (by rw [F1]; unfold zI; omega), zg_pos ⟨zk_178 n m, by rw [zp_178_59 r1]; omega⟩, zp_178_59 r1, zg_pos ⟨by rw [zk_216], by omega, by rw [zk_216]; dsimp only; omega⟩, if_neg ne, f]
theorem r187_yes {P : zM} {n m : Nat} {b : Int → Int} {h : Int} {D : Int → Int} {s p k : Int} (r1 : zPR P) (hb : P 185 = b) (hP : P 178 5 = h) (hh : 1 ≤ h ∧ h ≤ 8) (hs : 0 ≤ s ∧ s < 4096) (hF : ∀ t, 0 ≤ t → t < 4096 → P 216 t = D (zpi t)) (hD : ∀ c, -1 ≤ D c ∧ D c ≤ 131072) (hk : 0 ≤ k ∧ k ≤ 3) (ok : zok b h D s k) : zex 187 91 [] [(2, 178), (0, s), (0, p), (0, k)] P (zKs, n, m) = if 2 ≤ k then (if k = 2 then zex 187 140 [(0, (1 : Int)), (2, 178)] [(2, 178), (0, s), (0, p), (0, k)] P (zKs, n, m) else zex 187 140 [(0, (0 : Int)), (2, 178)] [(2, 178), (0, s), (0, p), (0, k)] P (zKs, n, m)) else if k = 0 then zex 187 124 [(0, (0 : Int)), (2, 178)] [(2, 178), (0, s), (0, p), (0, k)] P (zKs, n, m) else zex 187 124 [(0, (1 : Int)), (2, 178)] [(2, 178), (0, s), (0, p), (0, k)] P (zKs, n, m) := by
  have c1 := e180 (n := n) (m := m) (d3 := (9, 0)) (d4 := (9, 0)) (d5 := (9, 0)) (d6 := (9, 0)) (d7 := (9, 0)) (d8 := (9, 0)) r1 hs hk
  rw [hb] at c1
  have c2 := e181 (P := P) (n := n) (m := m) (k := k) (by rw [hP]; exact hh)
  rw [hP] at c2
  have v := zmv_le (b := b) hs hk
  have w := zpm_le (m := k) hh
  have e := ok.1
  have F1 := hF _ (show 0 ≤ zmv b s k by omega) v.2
  have F2 := hF s hs.1 hs.2
  have d1 := hD (zpi (zmv b s k))
  have eq : P 216 (zmv b s k) + zpm h k = P 216 s := by
    rw [F1, F2]
    exact ok.2
  rw [q187_91, zg_pos (zk_178 n m), c1, zbI_ok, if_neg e, zg_pos ⟨zk_178 n m, by rw [zp_178_59 r1]; omega⟩, zg_pos (zk_178 n m), c1, zbI_ok, zp_178_59 r1, zg_pos ⟨by rw [zk_216], by omega, by rw [zk_216]; dsimp only; omega⟩, zg_pos (zk_178 n m), c2, zbI_ok, zg_pos (by rw [F1]; unfold zI; omega), zg_pos ⟨zk_178 n m, by rw [zp_178_59 r1]; omega⟩, zp_178_59 r1, zg_pos ⟨by rw [zk_216], by omega, by rw [zk_216]; dsimp only; omega⟩, if_pos eq]
theorem zSt.le {M P : zM} {s : Int} (S : zSt M P s) : 0 ≤ s ∧ s < 4096 := by
  obtain ⟨⟨f1, f2, f3⟩, s2, s3, s4⟩ := S
  omega
/-- one move on either side -/
theorem zgo_st {M P : zM} {n m : Nat} {D : Int → Int} {s p k : Int} (r0 : zPC M) (r1 : zPR P) (R : zRn M P) (S : zSt M P s) (hh : 1 ≤ P 178 5 ∧ P 178 5 ≤ 8) (hF : ∀ t, 0 ≤ t → t < 4096 → P 216 t = D (zpi t)) (hD : ∀ c, -1 ≤ D c ∧ D c ≤ 131072) (hk : k = 0 ∨ k = 1 ∨ k = 2) (ok : zok (P 185) (P 178 5) D s k) (hb : 0 ≤ M 47 5 ∧ M 47 5 ≤ 1000000000) : ∃ M1 P1, zex 89 0 [] [(2, 47), (0, k)] M (zKs, n, m) = some ((9, 0), M1, (zKs, n, m)) ∧ zex 187 91 [] [(2, 178), (0, s), (0, p), (0, k)] P (zKs, n, m) = zex 187 84 [] [(2, 178), (0, zmv (P 185) s k), (0, p), (0, k)] P1 (zKs, n, m) ∧ zRn M1 P1 ∧ zSt M1 P1 (zmv (P 185) s k) ∧ M1 47 5 = M 47 5 + zpm (P 178 5) k ∧ zfm M M1 ∧ zfpu P P1 := by
  have hs := S.le
  have y := r187_yes (n := n) (m := m) (p := p) r1 rfl rfl hh hs hF hD (by omega) ok
  have fin : ∀ P1 : zM, zfpu P P1 → zex 187 141 [] [(2, 178), (0, s), (0, p), (0, k)] P1 (zKs, n, m) = zex 187 84 [] [(2, 178), (0, zmv (P 185) s k), (0, p), (0, k)] P1 (zKs, n, m) := fun P1 hP => by
    have c1 := e180 (n := n) (m := m) (k := k) (d3 := (9, 0)) (d4 := (9, 0)) (d5 := (9, 0)) (d6 := (9, 0)) (d7 := (9, 0)) (d8 := (9, 0)) (hP.pr r1) hs (by omega)
    rw [show P1 185 = P 185 from funext fun t => hP _ _ (by omega)] at c1
    rw [q187_141, zg_pos (zk_178 n m), c1, zbI_ok]
  by_cases e : k = 2
  · obtain ⟨M1, P1, a1, a2, a3, a4, a5, a6, a7⟩ := e89T n m r0 r1 R S hh (.inl e) hb
    refine ⟨M1, P1, a1, ?_, a3, a4, by rw [a5]; congr 1; exact (if_pos (by omega)).symm, a6, a7⟩
    rw [y, if_pos (by omega), if_pos e, q187_140, zg_pos (zk_178 n m)]
    rw [if_pos e] at a2
    rw [a2, zbN_ok, fin P1 a7]
  · obtain ⟨M1, P1, a1, a2, a3, a4, a5, a6, a7⟩ := e89A n m r0 r1 R S hh (by omega) ok.1 hb
    refine ⟨M1, P1, a1, ?_, a3, a4, by rw [a5]; congr 1; exact (if_neg (by omega)).symm, a6, a7⟩
    rw [y, if_neg (by omega)]
    by_cases e0 : k = 0
    · rw [if_pos e0, q187_124, if_pos e0, q187_129, zg_pos (zk_178 n m)]
      rw [e0] at a2
      rw [a2, zbN_ok, fin P1 a7]
    · have e1 : k = 1 := by omega
      rw [if_neg e0, q187_124, if_neg e0, q187_129, zg_pos (zk_178 n m)]
      rw [e1] at a2
      rw [a2, zbN_ok, fin P1 a7]
theorem zgo_lp {n m : Nat} {D : Int → Int} {gx gy p K : Int} : ∀ (N : Nat) (M P : zM) (s g mv : Int) (d5 d3 : zV), zPC M → zPR P → (∀ y, 0 ≤ y → y < 1024 → M 19 y = P 185 y) → (1 ≤ P 178 5 ∧ P 178 5 ≤ 8) → zDF (P 185) (P 178 5) gx gy D → (∀ t, 0 ≤ t → t < 4096 → P 216 t = D (zpi t)) → zRn M P → zSt M P s → D (zpi s) = g → 0 ≤ g → g ≤ N → zKn (M 20) D K → g ≤ K → 0 ≤ mv → mv + zcns D g ≤ 2048 → 0 ≤ M 47 5 → M 47 5 + g ≤ 500000000 → ∃ M1 P1 s1 c3, zex 87 20 [] [(2, 47), (0, gx), (0, gy), (0, g), (0, mv), d5] M (zKs, n, m) = some ((0, 1), M1, (zKs, n, m)) ∧ zex 187 84 [] [(2, 178), (0, s), (0, p), d3] P (zKs, n, m) = zex 187 202 [] [(2, 178), (0, s1), (0, p), c3] P1 (zKs, n, m) ∧ zRn M1 P1 ∧ zSt M1 P1 s1 ∧ M1 47 5 = M 47 5 + g ∧ zfm M M1 ∧ zfpu P P1 := by
  intro N
  have stop : ∀ (M P : zM) (s mv : Int) (d5 d3 : zV), zPR P → zSt M P s → P 216 s = 0 → mv ≤ 2048 → zex 87 20 [] [(2, 47), (0, gx), (0, gy), (0, 0), (0, mv), d5] M (zKs, n, m) = some ((0, 1), M, (zKs, n, m)) ∧ zex 187 84 [] [(2, 178), (0, s), (0, p), d3] P (zKs, n, m) = zex 187 202 [] [(2, 178), (0, s), (0, p), d3] P (zKs, n, m) := fun M P s mv d5 d3 r1 S h0 hm => by
    have hs := S.le
    refine ⟨?_, ?_⟩
    · rw [q87_20, if_neg (by omega), if_pos (by omega), q87_49, zg_pos (by omega)]
    · rw [q187_84, zg_pos ⟨zk_178 n m, by rw [zp_178_59 r1]; omega⟩, zp_178_59 r1, zg_pos ⟨by rw [zk_216], by omega, by rw [zk_216]; dsimp only; omega⟩, if_pos h0]
  induction N with
  | zero =>
    intro M P s g mv d5 d3 r0 r1 hb hh hD hF R S hg g0 gN hK gK m0 hm b0 b1
    have e : g = 0 := by omega
    have ct := zcnt_le (D := D) (g := g)
    have hs := S.le
    obtain ⟨s1, s2⟩ := stop M P s mv d5 d3 r1 S (by rw [hF s hs.1 hs.2]; omega) (by omega)
    exact ⟨M, P, s, d3, by rw [e]; exact s1, s2, R, S, by omega, fun _ _ _ => rfl, fun _ _ _ => rfl⟩
  | succ N ih =>
    intro M P s g mv d5 d3 r0 r1 hb hh hD hF R S hg g0 gN hK gK m0 hm b0 b1
    have ct := zcnt_le (D := D) (g := g)
    have hs := S.le
    have hDb : ∀ c, -1 ≤ D c ∧ D c ≤ 131072 := fun c => ⟨(hD.2.2.2 c).1, (hD.2.2.2 c).2.1⟩
    by_cases e : g = 0
    · obtain ⟨s1, s2⟩ := stop M P s mv d5 d3 r1 S (by rw [hF s hs.1 hs.2]; omega) (by omega)
      exact ⟨M, P, s, d3, by rw [e]; exact s1, s2, R, S, by omega, fun _ _ _ => rfl, fun _ _ _ => rfl⟩
    · obtain ⟨S1, S2, S3, S4⟩ := id S
      obtain ⟨k, k1, k2, k3, k4⟩ := e38 (n := n) (m := m) (x := M 47 6) (y := M 47 7) (q := M 47 8) (g := g) (K := K) (d5 := (9, 0)) (d6 := (9, 0)) r0 hb hD S1 S2 (by omega) gK hK (by rw [← S3]; exact hg)
      rw [← S3] at k3 k4
      obtain ⟨M1, P1, a1, a2, a3, a4, a5, a6, a7⟩ := zgo_st (n := n) (m := m) (p := p) r0 r1 R S hh hF hDb k1 k3 (by omega)
      have w := zpm_le (m := k) hh
      have g' : D (zpi (zmv (P 185) s k)) = g - zpm (P 178 5) k := by have := k3.2; omega
      have e185 : P1 185 = P 185 := funext fun t => a7 _ _ (by omega)
      have e5 : P1 178 5 = P 178 5 := a7 _ _ (by omega)
      have e216 : P1 216 = P 216 := funext fun t => a7 _ _ (by omega)
      have e20 : M1 20 = M 20 := funext fun t => a6 _ _ (by omega)
      have D0 : 0 ≤ D (zpi (zmv (P 185) s k)) := by
        by_cases z : D (zpi (zmv (P 185) s k)) = -1
        · obtain ⟨c', w', z1, z2, z3⟩ := hD.1 (zpi s) (by omega)
          have zs := hD.2.2.2 (zpi s)
          have ar := zad_mv (h := P 178 5) hs (by have := (zs.2.2 (by omega)).2; rw [show zpi s / 2 = s / 4 by unfold zpi; omega] at this; exact this) (m := k) (by omega) k3.1
          have := hD.2.1 _ _ _ ar.sw (by omega)
          omega
        · have := hDb (zpi (zmv (P 185) s k)); omega
      have rg := (hD.2.2.2 (zpi (zmv (P 185) s k))).2.2 (by omega)
      have lt := zcnt_lt (D := D) (g := g) rg.1 ⟨D0, by omega⟩
      rw [g'] at lt
      obtain ⟨M2, P2, s2, c3, b1', b2, b3, b4, b5, b6, b7⟩ := ih M1 P1 (zmv (P 185) s k) (g - zpm (P 178 5) k) (mv + 1) (0, M 47 5) (0, k) (a6.pc r0) (a7.pr r1) (fun y y0 y1 => by rw [a6 _ _ (by omega), e185]; exact hb y y0 y1) (by rw [e5]; exact hh) (by rw [e185, e5]; exact hD) (fun t t0 t1 => by rw [e216]; exact hF t t0 t1) a3 a4 g' (by omega) (by omega) (by rw [e20]; exact hK) (by omega) (by omega) (by omega) (by omega) (by omega)
      refine ⟨M2, P2, s2, c3, ?_, ?_, b3, b4, by omega, a6.trans b6, a7.trans b7⟩
      · rw [q87_20, if_neg (by omega), if_neg (by omega), zg_pos (zk_47 n m), zg_pos ⟨zk_47 n m, by rw [zp_47_0 r0]; omega⟩, zg_pos (zk_47 n m), zg_pos (zk_47 n m), zg_pos (zk_47 n m), zp_47_0 r0, zg_pos (zk_18 n m), k2, zbI_ok, zg_pos (zk_47 n m), a1, zbN_ok, zg_pos (zk_47 n m), a5, show M 47 5 + zpm (P 178 5) k - M 47 5 = zpm (P 178 5) k by omega, zg_pos (by unfold zI; omega), zg_pos (by unfold zI; omega), zg_pos (by unfold zI; omega)]
        exact b1'
      · rw [q187_84, zg_pos ⟨zk_178 n m, by rw [zp_178_59 r1]; omega⟩, zp_178_59 r1, zg_pos ⟨by rw [zk_216], by omega, by rw [zk_216]; dsimp only; omega⟩, if_neg (by rw [hF s hs.1 hs.2]; omega)]
        have no : ∀ j, 0 ≤ j → j < k → zex 187 91 [] [(2, 178), (0, s), (0, p), (0, j)] P (zKs, n, m) = zex 187 91 [] [(2, 178), (0, s), (0, p), (0, j + 1)] P (zKs, n, m) := fun j j0 j1 => r187_no r1 rfl rfl hh hs hF hDb (by omega) (k4 j j0 j1)
        have to : zex 187 91 [] [(2, 178), (0, s), (0, p), (0, 0)] P (zKs, n, m) = zex 187 91 [] [(2, 178), (0, s), (0, p), (0, k)] P (zKs, n, m) := by
          rcases k1 with rfl | rfl | rfl
          · rfl
          · exact no 0 (by omega) (by omega)
          · rw [no 0 (by omega) (by omega), show (0 : Int) + 1 = 1 by omega, no 1 (by omega) (by omega)]
            rfl
        rw [to, a2, b2]
