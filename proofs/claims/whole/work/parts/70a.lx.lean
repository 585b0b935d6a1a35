/-- the classes that the helpers' tables name -/
def lxW : List Cond := [.classLink RL 13 "java/lang/IllegalArgumentException", .classLink RL 15 "java/lang/IllegalStateException", .classLink RL 26 "java/lang/IndexOutOfBoundsException", .classLink RL 43 "java/lang/UnsupportedOperationException", .classLink RL 48 "java/util/NoSuchElementException", .classLink RL 105 "java/lang/ArithmeticException"]
theorem lxW_in : GoodIn lw_tbl lxW := goodIn_of _ (by decide +kernel)
theorem GoodIn.up {a b ws : List Cond} (h : GoodIn a ws) (hab : ∀ w ∈ a, w ∈ b) : GoodIn b ws := fun w hw => ⟨hab w (h w hw).1, (h w hw).2⟩
theorem goodIn_l {ws : List Cond} {own : String} {idx : Nat} {y : MethodName} (h : GoodIn wsL_law (va_wsS own idx y ws)) : GoodIn lw_tbl (va_wsS own idx y (ws ++ lxW)) := by
  intro w hw
  unfold va_wsS at hw
  rcases List.mem_append.mp hw with h1 | h1
  · exact (GoodIn.up h wsL_law_in) w (by unfold va_wsS; exact List.mem_append_left _ h1)
  · rcases List.mem_append.mp h1 with h2 | h2
    · exact (GoodIn.up h wsL_law_in) w (by unfold va_wsS; exact List.mem_append_right _ h2)
    · exact lxW_in w h2
