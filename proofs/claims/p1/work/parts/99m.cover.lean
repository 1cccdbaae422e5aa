/-! THE LAW, FROM ITS ENTRY -/
section Cover
/-- of a flip: a box of its first two numbers -/
def fB : List (Nat × Nat × Nat × Nat) := [(0, 2147483647, 0, 4294967295), (2147483652, 4294967295, 0, 4294967295), (2147483648, 2147483648, 0, 2147483647), (2147483648, 2147483648, 2147483712, 4294967295), (2147483648, 2147483648, 2147483648, 2147483655), (2147483648, 2147483648, 2147483656, 2147483663), (2147483648, 2147483648, 2147483664, 2147483671), (2147483648, 2147483648, 2147483672, 2147483679), (2147483648, 2147483648, 2147483680, 2147483687), (2147483648, 2147483648, 2147483688, 2147483695), (2147483648, 2147483648, 2147483696, 2147483703), (2147483648, 2147483648, 2147483704, 2147483711), (2147483649, 2147483649, 0, 2147483647), (2147483649, 2147483649, 2147483712, 4294967295), (2147483649, 2147483649, 2147483648, 2147483655), (2147483649, 2147483649, 2147483656, 2147483663), (2147483649, 2147483649, 2147483664, 2147483671), (2147483649, 2147483649, 2147483672, 2147483679), (2147483649, 2147483649, 2147483680, 2147483687), (2147483649, 2147483649, 2147483688, 2147483695), (2147483649, 2147483649, 2147483696, 2147483703), (2147483649, 2147483649, 2147483704, 2147483711), (2147483650, 2147483650, 0, 2147483647), (2147483650, 2147483650, 2147483712, 4294967295), (2147483650, 2147483650, 2147483648, 2147483655), (2147483650, 2147483650, 2147483656, 2147483663), (2147483650, 2147483650, 2147483664, 2147483671), (2147483650, 2147483650, 2147483672, 2147483679), (2147483650, 2147483650, 2147483680, 2147483687), (2147483650, 2147483650, 2147483688, 2147483695), (2147483650, 2147483650, 2147483696, 2147483703), (2147483650, 2147483650, 2147483704, 2147483711), (2147483651, 2147483651, 0, 2147483647), (2147483651, 2147483651, 2147483712, 4294967295), (2147483651, 2147483651, 2147483648, 2147483655), (2147483651, 2147483651, 2147483656, 2147483663), (2147483651, 2147483651, 2147483664, 2147483671), (2147483651, 2147483651, 2147483672, 2147483679), (2147483651, 2147483651, 2147483680, 2147483687), (2147483651, 2147483651, 2147483688, 2147483695), (2147483651, 2147483651, 2147483696, 2147483703), (2147483651, 2147483651, 2147483704, 2147483711)]
def fIn (x y : Nat) (q : Nat × Nat × Nat × Nat) : Prop := q.1 ≤ x ∧ x ≤ q.2.1 ∧ q.2.2.1 ≤ y ∧ y ≤ q.2.2.2
theorem fB_mem {q : Nat × Nat × Nat × Nat} (i : Nat) (h : fB[i]? = some q) : q ∈ fB := List.mem_of_getElem? h
theorem fB_all (x y : Nat) (hx : x < 4294967296) (hy : y < 4294967296) : ∃ q, q ∈ fB ∧ fIn x y q := by
  rcases Nat.lt_or_ge x 2147483648 with g | g
  · exact ⟨_, fB_mem 0 rfl, ⟨Nat.zero_le _, Nat.le_of_lt_succ g, Nat.zero_le _, Nat.le_of_lt_succ hy⟩⟩
  rcases Nat.lt_or_ge x 2147483649 with g0 | g0
  · rcases Nat.lt_or_ge y 2147483648 with r | r
    · exact ⟨_, fB_mem 2 rfl, ⟨g, Nat.le_of_lt_succ g0, Nat.zero_le _, Nat.le_of_lt_succ r⟩⟩
    rcases Nat.lt_or_ge y 2147483656 with r0 | r0
    · exact ⟨_, fB_mem 4 rfl, ⟨g, Nat.le_of_lt_succ g0, r, Nat.le_of_lt_succ r0⟩⟩
    rcases Nat.lt_or_ge y 2147483664 with r1 | r1
    · exact ⟨_, fB_mem 5 rfl, ⟨g, Nat.le_of_lt_succ g0, r0, Nat.le_of_lt_succ r1⟩⟩
    rcases Nat.lt_or_ge y 2147483672 with r2 | r2
    · exact ⟨_, fB_mem 6 rfl, ⟨g, Nat.le_of_lt_succ g0, r1, Nat.le_of_lt_succ r2⟩⟩
    rcases Nat.lt_or_ge y 2147483680 with r3 | r3
    · exact ⟨_, fB_mem 7 rfl, ⟨g, Nat.le_of_lt_succ g0, r2, Nat.le_of_lt_succ r3⟩⟩
    rcases Nat.lt_or_ge y 2147483688 with r4 | r4
    · exact ⟨_, fB_mem 8 rfl, ⟨g, Nat.le_of_lt_succ g0, r3, Nat.le_of_lt_succ r4⟩⟩
    rcases Nat.lt_or_ge y 2147483696 with r5 | r5
    · exact ⟨_, fB_mem 9 rfl, ⟨g, Nat.le_of_lt_succ g0, r4, Nat.le_of_lt_succ r5⟩⟩
    rcases Nat.lt_or_ge y 2147483704 with r6 | r6
    · exact ⟨_, fB_mem 10 rfl, ⟨g, Nat.le_of_lt_succ g0, r5, Nat.le_of_lt_succ r6⟩⟩
    rcases Nat.lt_or_ge y 2147483712 with r7 | r7
    · exact ⟨_, fB_mem 11 rfl, ⟨g, Nat.le_of_lt_succ g0, r6, Nat.le_of_lt_succ r7⟩⟩
    exact ⟨_, fB_mem 3 rfl, ⟨g, Nat.le_of_lt_succ g0, r7, Nat.le_of_lt_succ hy⟩⟩
  rcases Nat.lt_or_ge x 2147483650 with g1 | g1
  · rcases Nat.lt_or_ge y 2147483648 with r | r
    · exact ⟨_, fB_mem 12 rfl, ⟨g0, Nat.le_of_lt_succ g1, Nat.zero_le _, Nat.le_of_lt_succ r⟩⟩
    rcases Nat.lt_or_ge y 2147483656 with r0 | r0
    · exact ⟨_, fB_mem 14 rfl, ⟨g0, Nat.le_of_lt_succ g1, r, Nat.le_of_lt_succ r0⟩⟩
    rcases Nat.lt_or_ge y 2147483664 with r1 | r1
    · exact ⟨_, fB_mem 15 rfl, ⟨g0, Nat.le_of_lt_succ g1, r0, Nat.le_of_lt_succ r1⟩⟩
    rcases Nat.lt_or_ge y 2147483672 with r2 | r2
    · exact ⟨_, fB_mem 16 rfl, ⟨g0, Nat.le_of_lt_succ g1, r1, Nat.le_of_lt_succ r2⟩⟩
    rcases Nat.lt_or_ge y 2147483680 with r3 | r3
    · exact ⟨_, fB_mem 17 rfl, ⟨g0, Nat.le_of_lt_succ g1, r2, Nat.le_of_lt_succ r3⟩⟩
    rcases Nat.lt_or_ge y 2147483688 with r4 | r4
    · exact ⟨_, fB_mem 18 rfl, ⟨g0, Nat.le_of_lt_succ g1, r3, Nat.le_of_lt_succ r4⟩⟩
    rcases Nat.lt_or_ge y 2147483696 with r5 | r5
    · exact ⟨_, fB_mem 19 rfl, ⟨g0, Nat.le_of_lt_succ g1, r4, Nat.le_of_lt_succ r5⟩⟩
    rcases Nat.lt_or_ge y 2147483704 with r6 | r6
    · exact ⟨_, fB_mem 20 rfl, ⟨g0, Nat.le_of_lt_succ g1, r5, Nat.le_of_lt_succ r6⟩⟩
    rcases Nat.lt_or_ge y 2147483712 with r7 | r7
    · exact ⟨_, fB_mem 21 rfl, ⟨g0, Nat.le_of_lt_succ g1, r6, Nat.le_of_lt_succ r7⟩⟩
    exact ⟨_, fB_mem 13 rfl, ⟨g0, Nat.le_of_lt_succ g1, r7, Nat.le_of_lt_succ hy⟩⟩
  rcases Nat.lt_or_ge x 2147483651 with g2 | g2
  · rcases Nat.lt_or_ge y 2147483648 with r | r
    · exact ⟨_, fB_mem 22 rfl, ⟨g1, Nat.le_of_lt_succ g2, Nat.zero_le _, Nat.le_of_lt_succ r⟩⟩
    rcases Nat.lt_or_ge y 2147483656 with r0 | r0
    · exact ⟨_, fB_mem 24 rfl, ⟨g1, Nat.le_of_lt_succ g2, r, Nat.le_of_lt_succ r0⟩⟩
    rcases Nat.lt_or_ge y 2147483664 with r1 | r1
    · exact ⟨_, fB_mem 25 rfl, ⟨g1, Nat.le_of_lt_succ g2, r0, Nat.le_of_lt_succ r1⟩⟩
    rcases Nat.lt_or_ge y 2147483672 with r2 | r2
    · exact ⟨_, fB_mem 26 rfl, ⟨g1, Nat.le_of_lt_succ g2, r1, Nat.le_of_lt_succ r2⟩⟩
    rcases Nat.lt_or_ge y 2147483680 with r3 | r3
    · exact ⟨_, fB_mem 27 rfl, ⟨g1, Nat.le_of_lt_succ g2, r2, Nat.le_of_lt_succ r3⟩⟩
    rcases Nat.lt_or_ge y 2147483688 with r4 | r4
    · exact ⟨_, fB_mem 28 rfl, ⟨g1, Nat.le_of_lt_succ g2, r3, Nat.le_of_lt_succ r4⟩⟩
    rcases Nat.lt_or_ge y 2147483696 with r5 | r5
    · exact ⟨_, fB_mem 29 rfl, ⟨g1, Nat.le_of_lt_succ g2, r4, Nat.le_of_lt_succ r5⟩⟩
    rcases Nat.lt_or_ge y 2147483704 with r6 | r6
    · exact ⟨_, fB_mem 30 rfl, ⟨g1, Nat.le_of_lt_succ g2, r5, Nat.le_of_lt_succ r6⟩⟩
    rcases Nat.lt_or_ge y 2147483712 with r7 | r7
    · exact ⟨_, fB_mem 31 rfl, ⟨g1, Nat.le_of_lt_succ g2, r6, Nat.le_of_lt_succ r7⟩⟩
    exact ⟨_, fB_mem 23 rfl, ⟨g1, Nat.le_of_lt_succ g2, r7, Nat.le_of_lt_succ hy⟩⟩
  rcases Nat.lt_or_ge x 2147483652 with g3 | g3
  · rcases Nat.lt_or_ge y 2147483648 with r | r
    · exact ⟨_, fB_mem 32 rfl, ⟨g2, Nat.le_of_lt_succ g3, Nat.zero_le _, Nat.le_of_lt_succ r⟩⟩
    rcases Nat.lt_or_ge y 2147483656 with r0 | r0
    · exact ⟨_, fB_mem 34 rfl, ⟨g2, Nat.le_of_lt_succ g3, r, Nat.le_of_lt_succ r0⟩⟩
    rcases Nat.lt_or_ge y 2147483664 with r1 | r1
    · exact ⟨_, fB_mem 35 rfl, ⟨g2, Nat.le_of_lt_succ g3, r0, Nat.le_of_lt_succ r1⟩⟩
    rcases Nat.lt_or_ge y 2147483672 with r2 | r2
    · exact ⟨_, fB_mem 36 rfl, ⟨g2, Nat.le_of_lt_succ g3, r1, Nat.le_of_lt_succ r2⟩⟩
    rcases Nat.lt_or_ge y 2147483680 with r3 | r3
    · exact ⟨_, fB_mem 37 rfl, ⟨g2, Nat.le_of_lt_succ g3, r2, Nat.le_of_lt_succ r3⟩⟩
    rcases Nat.lt_or_ge y 2147483688 with r4 | r4
    · exact ⟨_, fB_mem 38 rfl, ⟨g2, Nat.le_of_lt_succ g3, r3, Nat.le_of_lt_succ r4⟩⟩
    rcases Nat.lt_or_ge y 2147483696 with r5 | r5
    · exact ⟨_, fB_mem 39 rfl, ⟨g2, Nat.le_of_lt_succ g3, r4, Nat.le_of_lt_succ r5⟩⟩
    rcases Nat.lt_or_ge y 2147483704 with r6 | r6
    · exact ⟨_, fB_mem 40 rfl, ⟨g2, Nat.le_of_lt_succ g3, r5, Nat.le_of_lt_succ r6⟩⟩
    rcases Nat.lt_or_ge y 2147483712 with r7 | r7
    · exact ⟨_, fB_mem 41 rfl, ⟨g2, Nat.le_of_lt_succ g3, r6, Nat.le_of_lt_succ r7⟩⟩
    exact ⟨_, fB_mem 33 rfl, ⟨g2, Nat.le_of_lt_succ g3, r7, Nat.le_of_lt_succ hy⟩⟩
  exact ⟨_, fB_mem 1 rfl, ⟨g3, Nat.le_of_lt_succ hx, Nat.zero_le _, Nat.le_of_lt_succ hy⟩⟩
theorem fB_run : ∀ q ∈ fB, rrun rCfP rMt rBL 338 (rkb2 rCfP) rk1 100000 rL28 rl1 [] (rh2 9) (nat_lit 4294967566) (nat_lit 213) (nat_lit 20301) (rEf q.1 q.2.1 q.2.2.1 q.2.2.2) = true := by
  intro q hq
  simp only [fB, List.mem_cons, List.not_mem_nil, or_false] at hq
  rcases hq with rfl | rfl | rfl | rfl | rfl | rfl | rfl | rfl | rfl | rfl | rfl | rfl | rfl | rfl | rfl | rfl | rfl | rfl | rfl | rfl | rfl | rfl | rfl | rfl | rfl | rfl | rfl | rfl | rfl | rfl | rfl | rfl | rfl | rfl | rfl | rfl | rfl | rfl | rfl | rfl | rfl | rfl
  · exact run_flip0
  · exact run_flip1
  · exact run_flip2
  · exact run_flip3
  · exact run_flip4
  · exact run_flip5
  · exact run_flip6
  · exact run_flip7
  · exact run_flip8
  · exact run_flip9
  · exact run_flip10
  · exact run_flip11
  · exact run_flip12
  · exact run_flip13
  · exact run_flip14
  · exact run_flip15
  · exact run_flip16
  · exact run_flip17
  · exact run_flip18
  · exact run_flip19
  · exact run_flip20
  · exact run_flip21
  · exact run_flip22
  · exact run_flip23
  · exact run_flip24
  · exact run_flip25
  · exact run_flip26
  · exact run_flip27
  · exact run_flip28
  · exact run_flip29
  · exact run_flip30
  · exact run_flip31
  · exact run_flip32
  · exact run_flip33
  · exact run_flip34
  · exact run_flip35
  · exact run_flip36
  · exact run_flip37
  · exact run_flip38
  · exact run_flip39
  · exact run_flip40
  · exact run_flip41
end Cover
