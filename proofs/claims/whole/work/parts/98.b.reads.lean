/-! WINDINGS: reads -/
def zlC (M : zM) (b : Int) : Prop := M (5 + 4 * b) 0 = M (53 + 4 * b) 0 ∧ zlk M (5 + 4 * b) (53 + 4 * b) 0
def zlR (P : zM) (b i : Int) : Prop := ∀ y, i ≤ y → y < 40 * b + P 179 b → P 180 y = P 218 y ∧ P 181 y = P 219 y ∧ P 182 y = 0
theorem zrdC {n m : Nat} {v : Int} {M : zM} (r0 : zPC M) (hb : ∀ b, 0 ≤ b → b ≤ 2 → 0 ≤ M (5 + 4 * b) 0 ∧ M (5 + 4 * b) 0 ≤ 40) : ∀ (c : Nat) (a : Int), 0 ≤ a → a + c = 3 → ∃ w : Int, zex 122 9 [] [(2, 1), (0, v), (0, a)] M (zKs, n, m) = some ((0, w), M, (zKs, n, m)) ∧ ((w = 1 ∧ ∀ b, a ≤ b → b ≤ 2 → zlC M b) ∨ (w = 0 ∧ ¬ ∀ b, a ≤ b → b ≤ 2 → zlC M b))
  | 0, a, h0, hc => ⟨1, by rw [q122_9, if_pos (by omega)], .inl ⟨rfl, fun b b0 b1 => by omega⟩⟩
  | c + 1, a, h0, hc => by
    have ha : 0 ≤ a ∧ a ≤ 2 := by omega
    obtain ⟨w, e1, e2⟩ := e15 (e := (9, 0)) (zCd3 r0 n m ha) (zCd_w r0 n m ha) (hb a ha.1 ha.2).1 (hb a ha.1 ha.2).2
    have s1 : zex 122 9 [] [(2, 1), (0, v), (0, a)] M (zKs, n, m) = if w = 0 then some ((0, (0 : Int)), M, (zKs, n, m)) else zex 122 9 [] [(2, 1), (0, v), (0, a + 1)] M (zKs, n, m) := by
      rw [q122_9, if_neg (by omega), zg_pos ⟨zk_1 n m, by rw [zp_1_0 r0]; omega⟩, zp_1_0 r0, zg_pos ⟨zk_2 n m, by rw [zp_2_0 r0]; omega⟩, zp_2_0 r0, zg_pos ⟨by rw [zk_3], by omega, by rw [zk_3]; dsimp only; omega, by rw [zrp3 r0 ha]; omega⟩, zrp3 r0 ha, zg_pos ⟨zk_1 n m, by rw [zp_1_6 r0]; omega⟩, zp_1_6 r0, zg_pos ⟨zk_47 n m, by rw [zp_47_3 r0]; omega⟩, zp_47_3 r0, zg_pos ⟨by rw [zk_52], by omega, by rw [zk_52]; dsimp only; omega, by rw [zrp52 r0 ha]; omega⟩, zrp52 r0 ha, zg_pos (zrk3 n m ha), e1, zbI_ok, zg_pos (by unfold zI; omega)]
    rcases e2 with ⟨rfl, e3, e4⟩ | ⟨rfl, e3⟩
    · rw [if_neg (by omega)] at s1
      obtain ⟨w, g1, g2⟩ := zrdC (n := n) (m := m) (v := v) r0 hb c (a + 1) (by omega) (by omega)
      refine ⟨w, s1.trans g1, ?_⟩
      rcases g2 with ⟨g2, g3⟩ | ⟨g2, g3⟩
      · refine .inl ⟨g2, fun b b0 b1 => ?_⟩
        by_cases k : b = a
        · rw [k]; exact ⟨e3, e4⟩
        · exact g3 b (by omega) b1
      · exact .inr ⟨g2, fun z => g3 (fun b b0 b1 => z b (by omega) b1)⟩
    · rw [if_pos rfl] at s1
      exact ⟨0, s1, .inr ⟨rfl, fun z => e3 (z a (Int.le_refl _) ha.2)⟩⟩
/-- the reference's flag once down stays so -/
theorem zrd0 {n m : Nat} {v a i : Int} {P : zM} (r1 : zPR P) (ha : 0 ≤ a ∧ a ≤ 2) (hN : 0 ≤ P 179 a ∧ P 179 a ≤ 40) : zex 189 33 [] [(2, 178), (0, v), (0, 0), (0, a), (0, i)] P (zKs, n, m) = zex 189 11 [] [(2, 178), (0, v), (0, 0), (0, a + 1), (0, i)] P (zKs, n, m) := by
  rw [q189_33, zg_pos (by unfold zI; omega), zg_pos ⟨zk_178 n m, by rw [zp_178_1 r1]; omega⟩, zp_178_1 r1, zg_pos ⟨by rw [zk_179], by omega, by rw [zk_179]; dsimp only; omega⟩, zg_pos (by unfold zI; omega)]
  by_cases e : 40 * a + P 179 a ≤ i
  · rw [if_pos e, q189_74, zg_pos (by unfold zI; omega)]
  · rw [if_neg e, if_pos rfl, q189_74, zg_pos (by unfold zI; omega)]
theorem zrd0a {n m : Nat} {v : Int} {P : zM} (r1 : zPR P) (hb : ∀ b, 0 ≤ b → b ≤ 2 → 0 ≤ P 179 b ∧ P 179 b ≤ 40) : ∀ (c : Nat) (a : Int) (d4 : zV), 0 ≤ a → a + c = 3 → zex 189 11 [] [(2, 178), (0, v), (0, 0), (0, a), d4] P (zKs, n, m) = some ((0, 0), P, (zKs, n, m))
  | 0, a, d4, h0, hc => by rw [q189_11, if_pos (by omega), if_pos rfl, q189_81]
  | c + 1, a, d4, h0, hc => by
    rw [q189_11, if_neg (by omega), if_pos rfl, q189_27, q189_28, zg_pos (by unfold zI; omega), zrd0 r1 (by omega) (hb a h0 (by omega))]
    exact zrd0a r1 hb c (a + 1) _ (by omega) (by omega)
theorem zrdI {n m : Nat} {v a : Int} {P : zM} (r1 : zPR P) (ha : 0 ≤ a ∧ a ≤ 2) (hN : 0 ≤ P 179 a ∧ P 179 a ≤ 40) : ∀ (c : Nat) (i : Int), 40 * a ≤ i → i + c = 40 * a + P 179 a → ∃ g d : Int, zex 189 33 [] [(2, 178), (0, v), (0, 1), (0, a), (0, i)] P (zKs, n, m) = zex 189 11 [] [(2, 178), (0, v), (0, g), (0, a + 1), (0, d)] P (zKs, n, m) ∧ ((g = 1 ∧ zlR P a i) ∨ (g = 0 ∧ ¬ zlR P a i))
  | 0, i, h0, hc => ⟨1, i, by rw [q189_33, zg_pos (by unfold zI; omega), zg_pos ⟨zk_178 n m, by rw [zp_178_1 r1]; omega⟩, zp_178_1 r1, zg_pos ⟨by rw [zk_179], by omega, by rw [zk_179]; dsimp only; omega⟩, zg_pos (by unfold zI; omega), if_pos (by omega), q189_74, zg_pos (by unfold zI; omega)], .inl ⟨rfl, fun y y0 y1 => by omega⟩⟩
  | c + 1, i, h0, hc => by
    have no : zex 189 70 [] [(2, 178), (0, v), (0, 1), (0, a), (0, i)] P (zKs, n, m) = zex 189 11 [] [(2, 178), (0, v), (0, 0), (0, a + 1), (0, i + 1)] P (zKs, n, m) := by
      rw [q189_70, q189_71, zg_pos (by unfold zI; omega), zrd0 r1 ha hN]
    have s1 : zex 189 33 [] [(2, 178), (0, v), (0, 1), (0, a), (0, i)] P (zKs, n, m) = if P 180 i = P 218 i then (if P 181 i = P 219 i then (if P 182 i = 0 then zex 189 71 [(0, (1 : Int))] [(2, 178), (0, v), (0, 1), (0, a), (0, i)] P (zKs, n, m) else zex 189 70 [] [(2, 178), (0, v), (0, 1), (0, a), (0, i)] P (zKs, n, m)) else zex 189 70 [] [(2, 178), (0, v), (0, 1), (0, a), (0, i)] P (zKs, n, m)) else zex 189 70 [] [(2, 178), (0, v), (0, 1), (0, a), (0, i)] P (zKs, n, m) := by
      rw [q189_33, zg_pos (by unfold zI; omega), zg_pos ⟨zk_178 n m, by rw [zp_178_1 r1]; omega⟩, zp_178_1 r1, zg_pos ⟨by rw [zk_179], by omega, by rw [zk_179]; dsimp only; omega⟩, zg_pos (by unfold zI; omega), if_neg (by omega), if_neg (by omega), zg_pos ⟨zk_178 n m, by rw [zp_178_2 r1]; omega⟩, zp_178_2 r1, zg_pos ⟨by rw [zk_180], by omega, by rw [zk_180]; dsimp only; omega⟩, zg_pos ⟨zk_178 n m, by rw [zp_178_61 r1]; omega⟩, zp_178_61 r1, zg_pos ⟨by rw [zk_218], by omega, by rw [zk_218]; dsimp only; omega⟩]
      by_cases k1 : P 180 i = P 218 i
      · rw [if_pos k1, if_pos k1, zg_pos ⟨zk_178 n m, by rw [zp_178_3 r1]; omega⟩, zp_178_3 r1, zg_pos ⟨by rw [zk_181], by omega, by rw [zk_181]; dsimp only; omega⟩, zg_pos ⟨zk_178 n m, by rw [zp_178_62 r1]; omega⟩, zp_178_62 r1, zg_pos ⟨by rw [zk_219], by omega, by rw [zk_219]; dsimp only; omega⟩]
        by_cases k2 : P 181 i = P 219 i
        · rw [if_pos k2, if_pos k2, zg_pos ⟨zk_178 n m, by rw [zp_178_4 r1]; omega⟩, zp_178_4 r1, zg_pos ⟨by rw [zk_182], by omega, by rw [zk_182]; dsimp only; omega⟩]
        · rw [if_neg k2, if_neg k2]
      · rw [if_neg k1, if_neg k1]
    by_cases k : P 180 i = P 218 i ∧ P 181 i = P 219 i ∧ P 182 i = 0
    · obtain ⟨k1, k2, k3⟩ := k
      rw [if_pos k1, if_pos k2, if_pos k3, q189_71, zg_pos (by unfold zI; omega)] at s1
      obtain ⟨g, d, g1, g2⟩ := zrdI (n := n) (m := m) (v := v) r1 ha hN c (i + 1) (by omega) (by omega)
      refine ⟨g, d, s1.trans g1, ?_⟩
      rcases g2 with ⟨g2, g3⟩ | ⟨g2, g3⟩
      · refine .inl ⟨g2, fun y y0 y1 => ?_⟩
        by_cases e : y = i
        · rw [e]; exact ⟨k1, k2, k3⟩
        · exact g3 y (by omega) y1
      · exact .inr ⟨g2, fun z => g3 (fun y y0 y1 => z y (by omega) y1)⟩
    · refine ⟨0, i + 1, ?_, .inr ⟨rfl, fun z => k (z i (Int.le_refl _) (by omega))⟩⟩
      rw [s1]
      by_cases k1 : P 180 i = P 218 i
      · rw [if_pos k1]
        by_cases k2 : P 181 i = P 219 i
        · rw [if_pos k2, if_neg (fun k3 => k ⟨k1, k2, k3⟩), no]
        · rw [if_neg k2, no]
      · rw [if_neg k1, no]
theorem zrdR {n m : Nat} {v : Int} {P : zM} (r1 : zPR P) (hb : ∀ b, 0 ≤ b → b ≤ 2 → 0 ≤ P 179 b ∧ P 179 b ≤ 40) : ∀ (c : Nat) (a : Int) (d4 : zV), 0 ≤ a → a + c = 3 → ∃ w : Int, zex 189 11 [] [(2, 178), (0, v), (0, 1), (0, a), d4] P (zKs, n, m) = some ((0, w), P, (zKs, n, m)) ∧ ((w = 1 ∧ ∀ b, a ≤ b → b ≤ 2 → P 179 b = P 217 b ∧ zlR P b (40 * b)) ∨ (w = 0 ∧ ¬ ∀ b, a ≤ b → b ≤ 2 → P 179 b = P 217 b ∧ zlR P b (40 * b)))
  | 0, a, d4, h0, hc => ⟨1, by rw [q189_11, if_pos (by omega), if_neg (by omega), q189_81], .inl ⟨rfl, fun b b0 b1 => by omega⟩⟩
  | c + 1, a, d4, h0, hc => by
    have ha : 0 ≤ a ∧ a ≤ 2 := by omega
    have hN := hb a ha.1 ha.2
    have s1 : zex 189 11 [] [(2, 178), (0, v), (0, 1), (0, a), d4] P (zKs, n, m) = if P 179 a = P 217 a then zex 189 28 [(0, (1 : Int))] [(2, 178), (0, v), (0, 1), (0, a), d4] P (zKs, n, m) else zex 189 27 [] [(2, 178), (0, v), (0, 1), (0, a), d4] P (zKs, n, m) := by
      rw [q189_11, if_neg (by omega), if_neg (by omega), zg_pos ⟨zk_178 n m, by rw [zp_178_1 r1]; omega⟩, zp_178_1 r1, zg_pos ⟨by rw [zk_179], by omega, by rw [zk_179]; dsimp only; omega⟩, zg_pos ⟨zk_178 n m, by rw [zp_178_60 r1]; omega⟩, zp_178_60 r1, zg_pos ⟨by rw [zk_217], by omega, by rw [zk_217]; dsimp only; omega⟩]
    by_cases e : P 179 a = P 217 a
    · rw [if_pos e, q189_28, zg_pos (by unfold zI; omega)] at s1
      obtain ⟨g, d, g1, g2⟩ := zrdI (n := n) (m := m) (v := v) r1 ha hN (P 179 a).toNat (40 * a) (Int.le_refl _) (by omega)
      rcases g2 with ⟨rfl, g3⟩ | ⟨rfl, g3⟩
      · obtain ⟨w, j1, j2⟩ := zrdR (n := n) (m := m) (v := v) r1 hb c (a + 1) (0, d) (by omega) (by omega)
        refine ⟨w, s1.trans (g1.trans j1), ?_⟩
        rcases j2 with ⟨j2, j3⟩ | ⟨j2, j3⟩
        · refine .inl ⟨j2, fun b b0 b1 => ?_⟩
          by_cases k : b = a
          · rw [k]; exact ⟨e, g3⟩
          · exact j3 b (by omega) b1
        · exact .inr ⟨j2, fun z => j3 (fun b b0 b1 => z b (by omega) b1)⟩
      · exact ⟨0, s1.trans (g1.trans (zrd0a r1 hb c (a + 1) _ (by omega) (by omega))), .inr ⟨rfl, fun z => g3 (z a (Int.le_refl _) ha.2).2⟩⟩
    · rw [if_neg e, q189_27, q189_28, zg_pos (by unfold zI; omega), zrd0 r1 ha hN] at s1
      exact ⟨0, s1.trans (zrd0a r1 hb c (a + 1) _ (by omega) (by omega)), .inr ⟨rfl, fun z => e (z a (Int.le_refl _) ha.2).1⟩⟩
theorem o_reads {q : Int} {M P : zM} (h : zRel q M P) (n m : Nat) : zOpn q 122 189 [(9, 0), (9, 0)] [(9, 0), (9, 0), (9, 0), (9, 0)] M P n m := by
  obtain ⟨M1, P1, w1, w2, H⟩ := zmake h n m
  have h1 := h.way w1 w2
  rcases H with ⟨v, hv, a1, a2⟩ | ⟨v, hv, a1, a2, a3, a4⟩
  · refine ⟨v, M1, P1, ?_, zWF_cf w1, ?_, zWG_rf w2, h1⟩
    · rw [q122_0, zg_pos (zk_1 n m), a1, zbI_ok, if_neg (by omega)]
    · rw [q189_0, zg_pos (zk_178 n m), a2, zbI_ok, if_neg (by omega)]
  · obtain ⟨⟨r0, r1⟩, rc, -⟩ := id h1
    have rc' : ∀ a, 0 ≤ a → a ≤ 2 → M1 (5 + 4 * a) 0 = P1 179 a ∧ 0 ≤ P1 179 a ∧ P1 179 a ≤ 40 ∧ ∀ i, 0 ≤ i → i < P1 179 a → M1 (6 + 4 * a) i = P1 180 (40 * a + i) ∧ M1 (7 + 4 * a) i = P1 181 (40 * a + i) ∧ M1 (8 + 4 * a) i = P1 182 (40 * a + i) := fun a h0 h2 => by
      obtain ⟨z1, z2, z3, z4⟩ := rc a h0 h2
      rw [show (2 : Int) + 3 + 4 * a = 5 + 4 * a by omega] at z1
      refine ⟨z1, z2, z3, fun i i0 i1 => ?_⟩
      obtain ⟨y1, y2, y3, -⟩ := z4 i i0 i1
      rw [show (2 : Int) + 4 + 4 * a = 6 + 4 * a by omega] at y1
      rw [show (2 : Int) + 5 + 4 * a = 7 + 4 * a by omega] at y2
      rw [show (2 : Int) + 6 + 4 * a = 8 + 4 * a by omega] at y3
      exact ⟨y1, y2, y3⟩
    obtain ⟨w, b1, b2⟩ := zrdC (n := n) (m := m) (v := v) r0 (fun b b0 b1 => by rw [(rc' b b0 b1).1]; exact ⟨(rc' b b0 b1).2.1, (rc' b b0 b1).2.2.1⟩) 3 0 (by omega) (by omega)
    obtain ⟨w', c1, c2⟩ := zrdR (n := n) (m := m) (v := 0) r1 (fun b b0 b1 => ⟨(rc' b b0 b1).2.1, (rc' b b0 b1).2.2.1⟩) 3 0 (9, 0) (by omega) (by omega)
    have E : ∀ b, 0 ≤ b → b ≤ 2 → (zlC M1 b ↔ P1 179 b = P1 217 b ∧ zlR P1 b (40 * b)) := fun b b0 b1 => by
      obtain ⟨z1, z2, z3, z4⟩ := rc' b b0 b1
      obtain ⟨x1, x2, x3⟩ := a4 b b0 b1
      unfold zlC zlk zlR
      rw [z1, x1, show 5 + 4 * b + 1 = 6 + 4 * b by omega, show 5 + 4 * b + 2 = 7 + 4 * b by omega, show 5 + 4 * b + 3 = 8 + 4 * b by omega]
      constructor
      · rintro ⟨g1, g2⟩
        refine ⟨g1, fun y y0 y1 => ?_⟩
        have g := g2 (y - 40 * b) (by omega) (by omega)
        obtain ⟨y1', y2, y3⟩ := z4 (y - 40 * b) (by omega) (by omega)
        obtain ⟨x4, x5, x6, -⟩ := x3 (y - 40 * b) (by omega) (by omega)
        rw [y1', y2, y3, x4, x5, x6, show 40 * b + (y - 40 * b) = y by omega] at g
        exact g
      · rintro ⟨g1, g2⟩
        refine ⟨g1, fun j j0 j1 => ?_⟩
        obtain ⟨y1', y2, y3⟩ := z4 j j0 j1
        obtain ⟨x4, x5, x6, -⟩ := x3 j j0 (by omega)
        rw [y1', y2, y3, x4, x5, x6]
        exact g2 (40 * b + j) (by omega) (by omega)
    have ww : w = w' := by
      rcases b2 with ⟨b2, b3⟩ | ⟨b2, b3⟩ <;> rcases c2 with ⟨c2, c3⟩ | ⟨c2, c3⟩
      · omega
      · exact (c3 (fun b b0 b1 => (E b b0 b1).mp (b3 b b0 b1))).elim
      · exact (b3 (fun b b0 b1 => (E b b0 b1).mpr (c3 b b0 b1))).elim
      · omega
    refine ⟨w, M1, P1, ?_, zWF_cf w1, ?_, zWG_rf w2, h1⟩
    · rw [q122_0, zg_pos (zk_1 n m), a1, zbI_ok, if_pos hv, b1]
    · rw [q189_0, zg_pos (zk_178 n m), a2, zbI_ok, if_pos rfl, c1, ww]
theorem lw_709 : zLop 709 := fun {q L x M n m e5 e6 e7} H hq h0 hn hm hx hL => by
  obtain ⟨v, M1, P1, a1, a2, a3, a4, a5⟩ := lw_op (q' := q) H (by omega) (fun P hP => (o_reads hP n m))
  refine ⟨P1, n, m, e5, e6, e7, ?_, a3, by omega, by omega⟩
  rw [q228_709, zg_pos (zk_1 n m), a1, zbI_ok, zg_pos (zk_178 n m), a2, zbI_ok, if_pos rfl, q228_1000, zg_pos (by unfold zI; omega)]
