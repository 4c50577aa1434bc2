def dk_I (n : Nat) (S : dk_S) : Prop := True
theorem pr_row (a1 : Int32) (a2 : Int32) {n : Nat} {S : dk_S} (hn : n < 512) (hI : dk_I n S) : ∃ (r : Int32) (S1 S2 : dk_S), fX8_row a1 a2 S = some (r, S1) ∧ fX9_row a1 a2 S1 = some (r, S2) ∧ dk_I (n + 1) S2 := by
  sorry
theorem pr_lay (a1 : Int32) (a2 : Int32) (a3 : Int32) {n : Nat} {S : dk_S} (hn : n < 512) (hI : dk_I n S) : ∃ (r : Int32) (S1 S2 : dk_S), fX8_lay a1 a2 a3 S = some (r, S1) ∧ fX9_lay a1 a2 a3 S1 = some (r, S2) ∧ dk_I (n + 1) S2 := by
  sorry
theorem pr_at (a1 : Int32) (a2 : Int32) {n : Nat} {S : dk_S} (hn : n < 512) (hI : dk_I n S) : ∃ (r : Int32) (S1 S2 : dk_S), fX8_at a1 a2 S = some (r, S1) ∧ fX9_at a1 a2 S1 = some (r, S2) ∧ dk_I (n + 1) S2 := by
  sorry
theorem pr_tear (a1 : Int32) {n : Nat} {S : dk_S} (hn : n < 512) (hI : dk_I n S) : ∃ (r : Int32) (S1 S2 : dk_S), fX8_tear a1 S = some (r, S1) ∧ fX9_tear a1 S1 = some (r, S2) ∧ dk_I (n + 1) S2 := by
  sorry
theorem pr_copy (a1 : Int32) (a2 : Int32) (a3 : Int32) (a4 : Int32) (a5 : Int32) {n : Nat} {S : dk_S} (hn : n < 512) (hI : dk_I n S) : ∃ (r : Int32) (S1 S2 : dk_S), fX8_copy a1 a2 a3 a4 a5 S = some (r, S1) ∧ fX9_copy a1 a2 a3 a4 a5 S1 = some (r, S2) ∧ dk_I (n + 1) S2 := by
  sorry
theorem pr_mean (a1 : Int32) {n : Nat} {S : dk_S} (hn : n < 512) (hI : dk_I n S) : ∃ (r : Int32) (S1 S2 : dk_S), fX8_mean a1 S = some (r, S1) ∧ fX9_mean a1 S1 = some (r, S2) ∧ dk_I (n + 1) S2 := by
  sorry
theorem pr_text (a1 : Int32) (a2 : Int32) {n : Nat} {S : dk_S} (hn : n < 512) (hI : dk_I n S) : ∃ (r : Int32) (S1 S2 : dk_S), fX8_text a1 a2 S = some (r, S1) ∧ fX9_text a1 a2 S1 = some (r, S2) ∧ dk_I (n + 1) S2 := by
  sorry
theorem pr_put (a1 : Int32) (a2 : Int32) (a3 : Int32) {n : Nat} {S : dk_S} (hn : n < 512) (hI : dk_I n S) : ∃ (r : Int32) (S1 S2 : dk_S), fX8_put a1 a2 a3 S = some (r, S1) ∧ fX9_put a1 a2 a3 S1 = some (r, S2) ∧ dk_I (n + 1) S2 := by
  sorry
theorem pr_fault (a1 : Int32) (a2 : Int32) {n : Nat} {S : dk_S} (hn : n < 512) (hI : dk_I n S) : ∃ (r : Int32) (S1 S2 : dk_S), fX8_fault a1 (if a2 = 0 then 0 else 1) S = some (r, S1) ∧ fX9_fault a1 (if a2 = 0 then 0 else 1) S1 = some (r, S2) ∧ dk_I (n + 1) S2 := by
  sorry
theorem pr_walker (a1 : Int32) (a2 : Int32) {n : Nat} {S : dk_S} (hn : n < 512) (hI : dk_I n S) : ∃ (r : Int32) (S1 S2 : dk_S), fX8_walker a1 a2 S = some (r, S1) ∧ fX9_walker a1 a2 S1 = some (r, S2) ∧ dk_I (n + 1) S2 := by
  sorry
theorem pr_board (a1 : Int32) (a2 : Int32) {n : Nat} {S : dk_S} (hn : n < 512) (hI : dk_I n S) : ∃ (r : Int32) (S1 S2 : dk_S), fX8_board a1 a2 S = some (r, S1) ∧ fX9_board a1 a2 S1 = some (r, S2) ∧ dk_I (n + 1) S2 := by
  sorry
theorem pr_about (a1 : Int32) (a2 : Int32) {n : Nat} {S : dk_S} (hn : n < 512) (hI : dk_I n S) : ∃ (r : Int32) (S1 S2 : dk_S), fX8_about a1 a2 S = some (r, S1) ∧ fX9_about a1 a2 S1 = some (r, S2) ∧ dk_I (n + 1) S2 := by
  sorry
theorem pr_rub (a1 : Int32) (a2 : Int32) {n : Nat} {S : dk_S} (hn : n < 512) (hI : dk_I n S) : ∃ (r : Int32) (S1 S2 : dk_S), fX8_rub a1 a2 S = some (r, S1) ∧ fX9_rub a1 a2 S1 = some (r, S2) ∧ dk_I (n + 1) S2 := by
  sorry
theorem pr_wax (a1 : Int32) (a2 : Int32) (a3 : Int32) {n : Nat} {S : dk_S} (hn : n < 512) (hI : dk_I n S) : ∃ (r : Int32) (S1 S2 : dk_S), fX8_wax a1 a2 a3 S = some (r, S1) ∧ fX9_wax a1 a2 a3 S1 = some (r, S2) ∧ dk_I (n + 1) S2 := by
  sorry
theorem pr_walk (a1 : Int32) (a2 : Int32) (a3 : Int32) (a4 : Int32) (a5 : Int32) {n : Nat} {S : dk_S} (hn : n < 512) (hI : dk_I n S) : ∃ (r : Int32) (S1 S2 : dk_S), fX8_walk a1 a2 a3 a4 a5 S = some (r, S1) ∧ fX9_walk a1 a2 a3 a4 a5 S1 = some (r, S2) ∧ dk_I (n + 1) S2 := by
  sorry
theorem pr_go (a1 : Int32) {n : Nat} {S : dk_S} (hn : n < 512) (hI : dk_I n S) : ∃ (r : Int32) (S1 S2 : dk_S), fX8_go a1 S = some (r, S1) ∧ fX9_go a1 S1 = some (r, S2) ∧ dk_I (n + 1) S2 := by
  sorry
theorem pr_told (a1 : Int32) {n : Nat} {S : dk_S} (hn : n < 512) (hI : dk_I n S) : ∃ (r : Int32) (S1 S2 : dk_S), fX8_told a1 S = some (r, S1) ∧ fX9_told a1 S1 = some (r, S2) ∧ dk_I (n + 1) S2 := by
  sorry
theorem pr_tocks (a1 : Int32) (a2 : Int32) {n : Nat} {S : dk_S} (hn : n < 512) (hI : dk_I n S) : ∃ (r : Int32) (S1 S2 : dk_S), fX8_tocks a1 a2 S = some (r, S1) ∧ fX9_tocks a1 a2 S1 = some (r, S2) ∧ dk_I (n + 1) S2 := by
  sorry
theorem pr_tilt (a1 : Int32) {n : Nat} {S : dk_S} (hn : n < 512) (hI : dk_I n S) : ∃ (r : Int32) (S1 S2 : dk_S), fX8_tilt a1 S = some (r, S1) ∧ fX9_tilt a1 S1 = some (r, S2) ∧ dk_I (n + 1) S2 := by
  sorry
theorem pr_keep (a1 : Int32) {n : Nat} {S : dk_S} (hn : n < 512) (hI : dk_I n S) : ∃ (r : Int32) (S1 S2 : dk_S), fX8_keep a1 S = some (r, S1) ∧ fX9_keep a1 S1 = some (r, S2) ∧ dk_I (n + 1) S2 := by
  sorry
theorem pr_on (a1 : Int32) {n : Nat} {S : dk_S} (hn : n < 512) (hI : dk_I n S) : ∃ (r : Int32) (S1 S2 : dk_S), fX8_on a1 S = some (r, S1) ∧ fX9_on a1 S1 = some (r, S2) ∧ dk_I (n + 1) S2 := by
  sorry
theorem pr_turns  {n : Nat} {S : dk_S} (hn : n < 512) (hI : dk_I n S) : ∃ (r : Int32) (S1 S2 : dk_S), fX8_turns S = some (r, S1) ∧ fX9_turns S1 = some (r, S2) ∧ dk_I (n + 1) S2 := by
  sorry
theorem pr_going (a1 : Int32) (a2 : Int32) (a3 : Int32) (a4 : Int32) {n : Nat} {S : dk_S} (hn : n < 512) (hI : dk_I n S) : ∃ (r : Int32) (S1 S2 : dk_S), fX8_going a1 a2 a3 a4 S = some (r, S1) ∧ fX9_going a1 a2 a3 a4 S1 = some (r, S2) ∧ dk_I (n + 1) S2 := by
  sorry
theorem pr_mark (a1 : Int32) (a2 : Int32) (a3 : Int32) (a4 : Int32) (a5 : Int32) {n : Nat} {S : dk_S} (hn : n < 512) (hI : dk_I n S) : ∃ (r : Int32) (S1 S2 : dk_S), fX8_mark a1 a2 a3 a4 a5 S = some (r, S1) ∧ fX9_mark a1 a2 a3 a4 a5 S1 = some (r, S2) ∧ dk_I (n + 1) S2 := by
  sorry
theorem pr_lines (a1 : Int32) (a2 : Int32) (a3 : Int32) (a4 : Int32) {n : Nat} {S : dk_S} (hn : n < 512) (hI : dk_I n S) : ∃ (r : Int32) (S1 S2 : dk_S), fX8_lines a1 a2 a3 a4 S = some (r, S1) ∧ fX9_lines a1 a2 a3 a4 S1 = some (r, S2) ∧ dk_I (n + 1) S2 := by
  sorry
theorem pr_begins (a1 : Int32) (a2 : Int32) (a3 : Int32) {n : Nat} {S : dk_S} (hn : n < 512) (hI : dk_I n S) : ∃ (r : Int32) (S1 S2 : dk_S), fX8_begins a1 a2 a3 S = some (r, S1) ∧ fX9_begins a1 a2 a3 S1 = some (r, S2) ∧ dk_I (n + 1) S2 := by
  sorry
theorem pr_mends (a1 : Int32) (a2 : Int32) (a3 : Int32) (a4 : Int32) (a5 : Int32) {n : Nat} {S : dk_S} (hn : n < 512) (hI : dk_I n S) : ∃ (r : Int32) (S1 S2 : dk_S), fX8_mends a1 a2 a3 a4 a5 S = some (r, S1) ∧ fX9_mends a1 a2 a3 a4 a5 S1 = some (r, S2) ∧ dk_I (n + 1) S2 := by
  sorry
theorem pr_wide (a1 : Int32) (a2 : Int32) (a3 : Int32) {n : Nat} {S : dk_S} (hn : n < 512) (hI : dk_I n S) : ∃ (r : Int32) (S1 S2 : dk_S), fX8_wide a1 a2 a3 S = some (r, S1) ∧ fX9_wide a1 a2 a3 S1 = some (r, S2) ∧ dk_I (n + 1) S2 := by
  sorry
theorem pr_mend (a1 : Int32) (a2 : Int32) (a3 : Int32) (a4 : Int32) {n : Nat} {S : dk_S} (hn : n < 512) (hI : dk_I n S) : ∃ (r : Int32) (S1 S2 : dk_S), fX8_mend a1 a2 a3 a4 S = some (r, S1) ∧ fX9_mend a1 a2 a3 a4 S1 = some (r, S2) ∧ dk_I (n + 1) S2 := by
  sorry
theorem pr_limp (a1 : Int32) (a2 : Int32) (a3 : Int32) {n : Nat} {S : dk_S} (hn : n < 512) (hI : dk_I n S) : ∃ (r : Int32) (S1 S2 : dk_S), fX8_limp a1 a2 a3 S = some (r, S1) ∧ fX9_limp a1 a2 a3 S1 = some (r, S2) ∧ dk_I (n + 1) S2 := by
  sorry
theorem pr_odds (a1 : Int32) (a2 : Int32) (a3 : Int32) {n : Nat} {S : dk_S} (hn : n < 512) (hI : dk_I n S) : ∃ (r : Int32) (S1 S2 : dk_S), fX8_odds a1 a2 a3 S = some (r, S1) ∧ fX9_odds a1 a2 a3 S1 = some (r, S2) ∧ dk_I (n + 1) S2 := by
  sorry
theorem pr_part (a1 : Int32) (a2 : Int32) (a3 : Int32) (a4 : Int32) {n : Nat} {S : dk_S} (hn : n < 512) (hI : dk_I n S) : ∃ (r : Int32) (S1 S2 : dk_S), fX8_part a1 a2 a3 a4 S = some (r, S1) ∧ fX9_part a1 a2 a3 a4 S1 = some (r, S2) ∧ dk_I (n + 1) S2 := by
  sorry
theorem pr_made (a1 : Int32) (a2 : Int32) (a3 : Int32) (a4 : Int32) {n : Nat} {S : dk_S} (hn : n < 512) (hI : dk_I n S) : ∃ (r : Int32) (S1 S2 : dk_S), fX8_made a1 a2 a3 a4 S = some (r, S1) ∧ fX9_made a1 a2 a3 a4 S1 = some (r, S2) ∧ dk_I (n + 1) S2 := by
  sorry
theorem pr_would (a1 : Int32) (a2 : Int32) (a3 : Int32) (a4 : Int32) {n : Nat} {S : dk_S} (hn : n < 512) (hI : dk_I n S) : ∃ (r : Int32) (S1 S2 : dk_S), fX8_would a1 a2 a3 a4 S = some (r, S1) ∧ fX9_would a1 a2 a3 a4 S1 = some (r, S2) ∧ dk_I (n + 1) S2 := by
  sorry
theorem pr_yard (a1 : Int32) (a2 : Int32) (a3 : Int32) (a4 : Int32) (a5 : Int32) {n : Nat} {S : dk_S} (hn : n < 512) (hI : dk_I n S) : ∃ (r : Int32) (S1 S2 : dk_S), fX8_yard a1 a2 a3 a4 a5 S = some (r, S1) ∧ fX9_yard a1 a2 a3 a4 a5 S1 = some (r, S2) ∧ dk_I (n + 1) S2 := by
  sorry
theorem pr_push (a1 : Int32) (a2 : Int32) (a3 : Int32) {n : Nat} {S : dk_S} (hn : n < 512) (hI : dk_I n S) : ∃ (r : Int32) (S1 S2 : dk_S), fX8_push a1 a2 a3 S = some (r, S1) ∧ fX9_push a1 a2 a3 S1 = some (r, S2) ∧ dk_I (n + 1) S2 := by
  sorry
theorem pr_bears (a1 : Int32) (a2 : Int32) (a3 : Int32) (a4 : Int32) (a5 : Int32) {n : Nat} {S : dk_S} (hn : n < 512) (hI : dk_I n S) : ∃ (r : Int32) (S1 S2 : dk_S), fX8_bears a1 a2 a3 a4 a5 S = some (r, S1) ∧ fX9_bears a1 a2 a3 a4 a5 S1 = some (r, S2) ∧ dk_I (n + 1) S2 := by
  sorry
theorem pr_meets (a1 : Int32) (a2 : Int32) (a3 : Int32) (a4 : Int32) (a5 : Int32) {n : Nat} {S : dk_S} (hn : n < 512) (hI : dk_I n S) : ∃ (r : Int32) (S1 S2 : dk_S), fX8_meets a1 a2 a3 a4 a5 S = some (r, S1) ∧ fX9_meets a1 a2 a3 a4 a5 S1 = some (r, S2) ∧ dk_I (n + 1) S2 := by
  sorry
theorem pr_asked  {n : Nat} {S : dk_S} (hn : n < 512) (hI : dk_I n S) : ∃ (r : Int32) (S1 S2 : dk_S), fX8_asked S = some (r, S1) ∧ fX9_asked S1 = some (r, S2) ∧ dk_I (n + 1) S2 := by
  sorry
theorem pr_upper  {n : Nat} {S : dk_S} (hn : n < 512) (hI : dk_I n S) : ∃ (r : Int64) (S1 S2 : dk_S), fX8_upper S = some (r, S1) ∧ fX9_upper S1 = some (r, S2) ∧ dk_I (n + 1) S2 := by
  sorry
theorem pr_lower  {n : Nat} {S : dk_S} (hn : n < 512) (hI : dk_I n S) : ∃ (r : Int64) (S1 S2 : dk_S), fX8_lower S = some (r, S1) ∧ fX9_lower S1 = some (r, S2) ∧ dk_I (n + 1) S2 := by
  sorry
theorem pr_count (a1 : Int32) {n : Nat} {S : dk_S} (hn : n < 512) (hI : dk_I n S) : ∃ (r : Int32) (S1 S2 : dk_S), fX8_count a1 S = some (r, S1) ∧ fX9_count a1 S1 = some (r, S2) ∧ dk_I (n + 1) S2 := by
  sorry
theorem pr_finding  {n : Nat} {S : dk_S} (hn : n < 512) (hI : dk_I n S) : ∃ (r : Int32) (S1 S2 : dk_S), fX8_finding S = some (r, S1) ∧ fX9_finding S1 = some (r, S2) ∧ dk_I (n + 1) S2 := by
  sorry
theorem pr_findings (a1 : Int32) {n : Nat} {S : dk_S} (hn : n < 512) (hI : dk_I n S) : ∃ (r : Int32) (S1 S2 : dk_S), fX8_findings a1 S = some (r, S1) ∧ fX9_findings a1 S1 = some (r, S2) ∧ dk_I (n + 1) S2 := by
  sorry
theorem pr_digest  {n : Nat} {S : dk_S} (hn : n < 512) (hI : dk_I n S) : ∃ (r : Int64) (S1 S2 : dk_S), fX8_digest S = some (r, S1) ∧ fX9_digest S1 = some (r, S2) ∧ dk_I (n + 1) S2 := by
  sorry
