theorem ly8 : lyS 8 40321 0 0 = true := by decide +kernel
theorem ly_all : ∀ n, 1 ≤ n → n ≤ 8 → ∃ F, lyS n F 0 0 = true := by
  intro n h1 h2
  have : n = 1 ∨ n = 2 ∨ n = 3 ∨ n = 4 ∨ n = 5 ∨ n = 6 ∨ n = 7 ∨ n = 8 := by omega
  rcases this with e | e | e | e | e | e | e | e <;> subst e
  · exact ⟨_, ly1⟩
  · exact ⟨_, ly2⟩
  · exact ⟨_, ly3⟩
  · exact ⟨_, ly4⟩
  · exact ⟨_, ly5⟩
  · exact ⟨_, ly6⟩
  · exact ⟨_, ly7⟩
  · exact ⟨_, ly8⟩
