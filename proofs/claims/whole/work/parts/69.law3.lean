/-! THE LAW: its loop -/
/-- a call of the law's at pc -/
def zLop (pc : Nat) : Prop := ∀ {q L x : Int} {M : zM} {n m : Nat} {e5 e6 e7 : zV}, zLw q L M → q ≤ 1000 → 0 ≤ q → 1 ≤ n → 6 ≤ m → 0 ≤ x ∧ x + 6 ≤ L → L ≤ 3072 → zLn q L x n m (zex 228 pc [] [(3, 4), (2, 1), (2, 178), (2, 222), (0, x), e5, e6, e7] M (zKs, n, m))
theorem lw_1000 : zLop 1000 := fun {q L x M n m e5 e6 e7} H hq h0 hn hm hx hL => ⟨M, n, m, e5, e6, e7, by rw [q228_1000, zg_pos (by unfold zI; omega)], H.of (H.1.mono (by omega)) (fun _ => rfl), by omega, by omega⟩
theorem lw_go {q L x : Int} {M : zM} {n m : Nat} {e5 e6 e7 : zV} (o522 : zLop 522) (o579 : zLop 579) (o709 : zLop 709) (H : zLw q L M) (hq : q ≤ 1000) (h0 : 0 ≤ q) (hn : 1 ≤ n) (hm : 6 ≤ m) (hx : 0 ≤ x ∧ x + 6 ≤ L) (hL : L ≤ 3072) : zLn q L x n m (zex 228 13 [] [(3, 4), (2, 1), (2, 178), (2, 222), (0, x), e5, e6, e7] M (zKs, n, m)) := by
  have b0 := H.2.1
  rw [q228_13, zg_pos rfl, b0, zg_pos (by unfold zI; omega), if_neg (by omega), zg_pos ⟨rfl, by omega, by omega⟩, zg_pos (by omega)]
  generalize zsv M 4 x % ((63 : Int) + 1) = o
  by_cases e : o = 0
  · rw [if_pos e]; exact lw_25 H hq h0 hn hm hx hL
  rw [if_neg e]; clear e
  by_cases e : o = 1
  · rw [if_pos e]; exact lw_32 H hq h0 hn hm hx hL
  rw [if_neg e]; clear e
  by_cases e : o = 2
  · rw [if_pos e]; exact lw_79 H hq h0 hn hm hx hL
  rw [if_neg e]; clear e
  by_cases e : o = 3
  · rw [if_pos e]; exact lw_96 H hq h0 hn hm hx hL
  rw [if_neg e]; clear e
  by_cases e : o = 4
  · rw [if_pos e]; exact lw_133 H hq h0 hn hm hx hL
  rw [if_neg e]; clear e
  by_cases e : o = 5
  · rw [if_pos e]; exact lw_150 H hq h0 hn hm hx hL
  rw [if_neg e]; clear e
  by_cases e : o = 6
  · rw [if_pos e]; exact lw_177 H hq h0 hn hm hx hL
  rw [if_neg e]; clear e
  by_cases e : o = 7
  · rw [if_pos e]; exact lw_214 H hq h0 hn hm hx hL
  rw [if_neg e]; clear e
  by_cases e : o = 8
  · rw [if_pos e]; exact lw_241 H hq h0 hn hm hx hL
  rw [if_neg e]; clear e
  by_cases e : o = 9
  · rw [if_pos e]; exact lw_268 H hq h0 hn hm hx hL
  rw [if_neg e]; clear e
  by_cases e : o = 10
  · rw [if_pos e]; exact lw_285 H hq h0 hn hm hx hL
  rw [if_neg e]; clear e
  by_cases e : o = 11
  · rw [if_pos e]; exact lw_302 H hq h0 hn hm hx hL
  rw [if_neg e]; clear e
  by_cases e : o = 12
  · rw [if_pos e]; exact lw_319 H hq h0 hn hm hx hL
  rw [if_neg e]; clear e
  by_cases e : o = 13
  · rw [if_pos e]; exact lw_326 H hq h0 hn hm hx hL
  rw [if_neg e]; clear e
  by_cases e : o = 14
  · rw [if_pos e]; exact lw_361 H hq h0 hn hm hx hL
  rw [if_neg e]; clear e
  by_cases e : o = 15
  · rw [if_pos e]; exact lw_406 H hq h0 hn hm hx hL
  rw [if_neg e]; clear e
  by_cases e : o = 16
  · rw [if_pos e]; exact lw_433 H hq h0 hn hm hx hL
  rw [if_neg e]; clear e
  by_cases e : o = 17
  · rw [if_pos e]; exact lw_478 H hq h0 hn hm hx hL
  rw [if_neg e]; clear e
  by_cases e : o = 18
  · rw [if_pos e]; exact lw_515 H hq h0 hn hm hx hL
  rw [if_neg e]; clear e
  by_cases e : o = 19
  · rw [if_pos e]; exact o522 H hq h0 hn hm hx hL
  rw [if_neg e]; clear e
  by_cases e : o = 20
  · rw [if_pos e]; exact o579 H hq h0 hn hm hx hL
  rw [if_neg e]; clear e
  by_cases e : o = 21
  · rw [if_pos e]; exact lw_586 H hq h0 hn hm hx hL
  rw [if_neg e]; clear e
  by_cases e : o = 22
  · rw [if_pos e]; exact lw_623 H hq h0 hn hm hx hL
  rw [if_neg e]; clear e
  by_cases e : o = 23
  · rw [if_pos e]; exact lw_630 H hq h0 hn hm hx hL
  rw [if_neg e]; clear e
  by_cases e : o = 24
  · rw [if_pos e]; exact lw_637 H hq h0 hn hm hx hL
  rw [if_neg e]; clear e
  by_cases e : o = 25
  · rw [if_pos e]; exact lw_644 H hq h0 hn hm hx hL
  rw [if_neg e]; clear e
  by_cases e : o = 26
  · rw [if_pos e]; exact lw_661 H hq h0 hn hm hx hL
  rw [if_neg e]; clear e
  by_cases e : o = 27
  · rw [if_pos e]; exact lw_678 H hq h0 hn hm hx hL
  rw [if_neg e]; clear e
  by_cases e : o = 28
  · rw [if_pos e]; exact lw_685 H hq h0 hn hm hx hL
  rw [if_neg e]; clear e
  by_cases e : o = 29
  · rw [if_pos e]; exact lw_702 H hq h0 hn hm hx hL
  rw [if_neg e]; clear e
  by_cases e : o = 30
  · rw [if_pos e]; exact o709 H hq h0 hn hm hx hL
  rw [if_neg e]; clear e
  by_cases e : o = 31
  · rw [if_pos e]; exact lw_716 H hq h0 hn hm hx hL
  rw [if_neg e]; clear e
  by_cases e : o = 32
  · rw [if_pos e]; exact lw_753 H hq h0 hn hm hx hL
  rw [if_neg e]; clear e
  by_cases e : o = 33
  · rw [if_pos e]; exact lw_770 H hq h0 hn hm hx hL
  rw [if_neg e]; clear e
  by_cases e : o = 34
  · rw [if_pos e]; exact lw_787 H hq h0 hn hm hx hL
  rw [if_neg e]; clear e
  by_cases e : o = 35
  · rw [if_pos e]; exact lw_804 H hq h0 hn hm hx hL
  rw [if_neg e]; clear e
  by_cases e : o = 36
  · rw [if_pos e]; exact lw_821 H hq h0 hn hm hx hL
  rw [if_neg e]; clear e
  by_cases e : o = 37
  · rw [if_pos e]; exact lw_882 H hq h0 hn hm hx hL
  rw [if_neg e]; clear e
  by_cases e : o = 38
  · rw [if_pos e]; exact lw_926 H hq h0 hn hm hx hL
  rw [if_neg e]; clear e
  by_cases e : o = 39
  · rw [if_pos e]; exact lw_983 H hq h0 hn hm hx hL
  rw [if_neg e]; clear e
  exact lw_1000 H hq h0 hn hm hx hL
theorem lw_loop {L : Int} (o522 : zLop 522) (o579 : zLop 579) (o709 : zLop 709) (hL : 0 ≤ L ∧ L ≤ 3072) : ∀ (c : Nat) (q x : Int) (M : zM) (n m : Nat) (e5 e6 e7 : zV), zLw q L M → 0 ≤ q → q + c ≤ 1000 → 0 ≤ x → L < x + 6 + 6 * c → c ≤ n → 6 * c ≤ m → ∃ M' X', zex 228 13 [] [(3, 4), (2, 1), (2, 178), (2, 222), (0, x), e5, e6, e7] M (zKs, n, m) = some ((0, 1), M', X')
  | 0, q, x, M, n, m, e5, e6, e7, H, h0, hq, hx, hc, hn, hm => by
    have b0 := H.2.1
    refine ⟨M, (zKs, n, m), ?_⟩
    rw [q228_13, zg_pos rfl, b0, zg_pos (by unfold zI; omega), if_pos (by omega), zg_pos (by omega)]
  | c + 1, q, x, M, n, m, e5, e6, e7, H, h0, hq, hx, hc, hn, hm => by
    by_cases hl : x + 6 ≤ L
    · obtain ⟨M', n', m', f5, f6, f7, a1, a2, a3, a4⟩ := lw_go (n := n) (m := m) (e5 := e5) (e6 := e6) (e7 := e7) o522 o579 o709 H (by omega) h0 (by omega) (by omega) ⟨hx, hl⟩ hL.2
      rw [a1]
      exact lw_loop o522 o579 o709 hL c (q + 1) (x + 6) M' n' m' f5 f6 f7 a2 (by omega) (by omega) (by omega) (by omega) (by omega) (by omega)
    · exact lw_loop o522 o579 o709 hL 0 q x M n m e5 e6 e7 H h0 (by omega) hx (by omega) (by omega) (by omega)
