theorem zTab_4 {x : Int32} (b0 : ¬ x = (0 : Int32)) (b1 : ¬ x = (1 : Int32)) (b2 : ¬ x = (2 : Int32)) (b3 : ¬ x = (3 : Int32)) : x.toInt < 0 ∨ (3 : Int) < x.toInt := zTab (n := 3) (by decide) (fun j hj => by
  have e : j = 0 ∨ j = 1 ∨ j = 2 ∨ j = 3 := by omega
  rcases e with rfl | rfl | rfl | rfl <;> assumption)
theorem zTab_6 {x : Int32} (b0 : ¬ x = (0 : Int32)) (b1 : ¬ x = (1 : Int32)) (b2 : ¬ x = (2 : Int32)) (b3 : ¬ x = (3 : Int32)) (b4 : ¬ x = (4 : Int32)) (b5 : ¬ x = (5 : Int32)) : x.toInt < 0 ∨ (5 : Int) < x.toInt := zTab (n := 5) (by decide) (fun j hj => by
  have e : j = 0 ∨ j = 1 ∨ j = 2 ∨ j = 3 ∨ j = 4 ∨ j = 5 := by omega
  rcases e with rfl | rfl | rfl | rfl | rfl | rfl <;> assumption)
theorem zTab_7 {x : Int32} (b0 : ¬ x = (0 : Int32)) (b1 : ¬ x = (1 : Int32)) (b2 : ¬ x = (2 : Int32)) (b3 : ¬ x = (3 : Int32)) (b4 : ¬ x = (4 : Int32)) (b5 : ¬ x = (5 : Int32)) (b6 : ¬ x = (6 : Int32)) : x.toInt < 0 ∨ (6 : Int) < x.toInt := zTab (n := 6) (by decide) (fun j hj => by
  have e : j = 0 ∨ j = 1 ∨ j = 2 ∨ j = 3 ∨ j = 4 ∨ j = 5 ∨ j = 6 := by omega
  rcases e with rfl | rfl | rfl | rfl | rfl | rfl | rfl <;> assumption)
theorem zTab_8 {x : Int32} (b0 : ¬ x = (0 : Int32)) (b1 : ¬ x = (1 : Int32)) (b2 : ¬ x = (2 : Int32)) (b3 : ¬ x = (3 : Int32)) (b4 : ¬ x = (4 : Int32)) (b5 : ¬ x = (5 : Int32)) (b6 : ¬ x = (6 : Int32)) (b7 : ¬ x = (7 : Int32)) : x.toInt < 0 ∨ (7 : Int) < x.toInt := zTab (n := 7) (by decide) (fun j hj => by
  have e : j = 0 ∨ j = 1 ∨ j = 2 ∨ j = 3 ∨ j = 4 ∨ j = 5 ∨ j = 6 ∨ j = 7 := by omega
  rcases e with rfl | rfl | rfl | rfl | rfl | rfl | rfl | rfl <;> assumption)
theorem zTab_9 {x : Int32} (b0 : ¬ x = (0 : Int32)) (b1 : ¬ x = (1 : Int32)) (b2 : ¬ x = (2 : Int32)) (b3 : ¬ x = (3 : Int32)) (b4 : ¬ x = (4 : Int32)) (b5 : ¬ x = (5 : Int32)) (b6 : ¬ x = (6 : Int32)) (b7 : ¬ x = (7 : Int32)) (b8 : ¬ x = (8 : Int32)) : x.toInt < 0 ∨ (8 : Int) < x.toInt := zTab (n := 8) (by decide) (fun j hj => by
  have e : j = 0 ∨ j = 1 ∨ j = 2 ∨ j = 3 ∨ j = 4 ∨ j = 5 ∨ j = 6 ∨ j = 7 ∨ j = 8 := by omega
  rcases e with rfl | rfl | rfl | rfl | rfl | rfl | rfl | rfl | rfl <;> assumption)
theorem zTab_16 {x : Int32} (b0 : ¬ x = (0 : Int32)) (b1 : ¬ x = (1 : Int32)) (b2 : ¬ x = (2 : Int32)) (b3 : ¬ x = (3 : Int32)) (b4 : ¬ x = (4 : Int32)) (b5 : ¬ x = (5 : Int32)) (b6 : ¬ x = (6 : Int32)) (b7 : ¬ x = (7 : Int32)) (b8 : ¬ x = (8 : Int32)) (b9 : ¬ x = (9 : Int32)) (b10 : ¬ x = (10 : Int32)) (b11 : ¬ x = (11 : Int32)) (b12 : ¬ x = (12 : Int32)) (b13 : ¬ x = (13 : Int32)) (b14 : ¬ x = (14 : Int32)) (b15 : ¬ x = (15 : Int32)) : x.toInt < 0 ∨ (15 : Int) < x.toInt := zTab (n := 15) (by decide) (fun j hj => by
  have e : j = 0 ∨ j = 1 ∨ j = 2 ∨ j = 3 ∨ j = 4 ∨ j = 5 ∨ j = 6 ∨ j = 7 ∨ j = 8 ∨ j = 9 ∨ j = 10 ∨ j = 11 ∨ j = 12 ∨ j = 13 ∨ j = 14 ∨ j = 15 := by omega
  rcases e with rfl | rfl | rfl | rfl | rfl | rfl | rfl | rfl | rfl | rfl | rfl | rfl | rfl | rfl | rfl | rfl <;> assumption)
