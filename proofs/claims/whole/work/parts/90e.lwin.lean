set_option maxRecDepth 20000 in
theorem in9wsX60 : ∀ w ∈ wsX60, w ∈ lw_tbl := by decide +kernel
set_option maxRecDepth 20000 in
theorem in9wsX70 : ∀ w ∈ wsX70, w ∈ lw_tbl := by decide +kernel
set_option maxRecDepth 20000 in
theorem in9wsX10 : ∀ w ∈ wsX10, w ∈ lw_tbl := by decide +kernel
set_option maxRecDepth 20000 in
theorem in9wsX30 : ∀ w ∈ wsX30, w ∈ lw_tbl := by decide +kernel
set_option maxRecDepth 20000 in
theorem in9wsX50 : ∀ w ∈ wsX50, w ∈ lw_tbl := by decide +kernel
set_option maxRecDepth 20000 in
theorem in9wsX40 : ∀ w ∈ wsX40, w ∈ lw_tbl := by decide +kernel
set_option maxRecDepth 20000 in
theorem in9wsX00 : ∀ w ∈ wsX00, w ∈ lw_tbl := by decide +kernel
set_option maxRecDepth 20000 in
theorem in9wsX20 : ∀ w ∈ wsX20, w ∈ lw_tbl := by decide +kernel
theorem wsL_law_in0 : ∀ w ∈ wsL_law0, w ∈ lw_tbl := fun w h => (List.mem_append.mp h).elim (fun h => (List.mem_append.mp h).elim (fun h => (List.mem_append.mp h).elim (fun h => (List.mem_append.mp h).elim (fun h => (List.mem_append.mp h).elim (fun h => (List.mem_append.mp h).elim (fun h => (List.mem_append.mp h).elim (fun h => (List.mem_append.mp h).elim (fun h => (List.mem_append.mp h).elim (fun h => (List.mem_append.mp h).elim (fun h => inr1 w h) (fun h => (List.mem_append.mp h).elim (fun h => inr2 w h) (fun h => (List.mem_append.mp h).elim (fun h => inr3 w h) (fun h => (List.mem_append.mp h).elim (fun h => inr4 w h) (fun h => (List.mem_append.mp h).elim (fun h => inr5 w h) (fun h => (List.mem_append.mp h).elim (fun h => inr6 w h) (fun h => (List.mem_append.mp h).elim (fun h => inr7 w h) (fun h => (List.mem_append.mp h).elim (fun h => inr8 w h) (fun h => (List.mem_append.mp h).elim (fun h => inr9 w h) (fun h => (List.mem_append.mp h).elim (fun h => inr10 w h) (fun h => (List.mem_append.mp h).elim (fun h => inr11 w h) (fun h => (List.mem_append.mp h).elim (fun h => inr12 w h) (fun h => (List.mem_append.mp h).elim (fun h => inr13 w h) (fun h => (List.mem_append.mp h).elim (fun h => inr14 w h) (fun h => (List.mem_append.mp h).elim (fun h => inr15 w h) (fun h => (List.mem_append.mp h).elim (fun h => inr16 w h) (fun h => (List.mem_append.mp h).elim (fun h => inr17 w h) (fun h => (List.mem_append.mp h).elim (fun h => inr18 w h) (fun h => (List.mem_append.mp h).elim (fun h => inr19 w h) (fun h => (List.mem_append.mp h).elim (fun h => inr20 w h) (fun h => (List.mem_append.mp h).elim (fun h => inr21 w h) (fun h => (List.mem_append.mp h).elim (fun h => inr22 w h) (fun h => (List.mem_append.mp h).elim (fun h => inr23 w h) (fun h => (List.mem_append.mp h).elim (fun h => inr24 w h) (fun h => (List.mem_append.mp h).elim (fun h => inr25 w h) (fun h => (List.mem_append.mp h).elim (fun h => inr26 w h) (fun h => (List.mem_append.mp h).elim (fun h => inr27 w h) (fun h => inr28 w h)))))))))))))))))))))))))))) (fun h => in9wsX60 w h)) (fun h => in9wsX70 w h)) (fun h => in9wsX10 w h)) (fun h => in9wsX30 w h)) (fun h => in9wsX50 w h)) (fun h => in9wsX40 w h)) (fun h => in9wsX00 w h)) (fun h => in9wsX20 w h)) (fun h => absurd h List.not_mem_nil)
theorem wsL_law_in : ∀ w ∈ wsL_law, w ∈ lw_tbl := fun w h => (List.mem_append.mp h).elim (fun h => (List.mem_append.mp h).elim (fun h => wsL_law_in0 w h) (fun h => wsL_law_x0 w h)) (fun h => wsL_law_x1 w h)
theorem inlX0 : ∀ w ∈ wsX00, w ∈ wsL_law := fun _ h => List.mem_append_left _ (List.mem_append_left _ (List.mem_append_left _ (List.mem_append_left _ (List.mem_append_right _ h))))
theorem inX0 : ∀ w ∈ wsX00, w ∈ lw_tbl := fun w h => wsL_law_in w (inlX0 w h)
theorem inlX1 : ∀ w ∈ wsX10, w ∈ wsL_law := fun _ h => List.mem_append_left _ (List.mem_append_left _ (List.mem_append_left _ (List.mem_append_left _ (List.mem_append_left _ (List.mem_append_left _ (List.mem_append_left _ (List.mem_append_left _ (List.mem_append_right _ h))))))))
theorem inX1 : ∀ w ∈ wsX10, w ∈ lw_tbl := fun w h => wsL_law_in w (inlX1 w h)
theorem inlX2 : ∀ w ∈ wsX20, w ∈ wsL_law := fun _ h => List.mem_append_left _ (List.mem_append_left _ (List.mem_append_left _ (List.mem_append_right _ h)))
theorem inX2 : ∀ w ∈ wsX20, w ∈ lw_tbl := fun w h => wsL_law_in w (inlX2 w h)
theorem inlX3 : ∀ w ∈ wsX30, w ∈ wsL_law := fun _ h => List.mem_append_left _ (List.mem_append_left _ (List.mem_append_left _ (List.mem_append_left _ (List.mem_append_left _ (List.mem_append_left _ (List.mem_append_left _ (List.mem_append_right _ h)))))))
theorem inX3 : ∀ w ∈ wsX30, w ∈ lw_tbl := fun w h => wsL_law_in w (inlX3 w h)
theorem inlX4 : ∀ w ∈ wsX40, w ∈ wsL_law := fun _ h => List.mem_append_left _ (List.mem_append_left _ (List.mem_append_left _ (List.mem_append_left _ (List.mem_append_left _ (List.mem_append_right _ h)))))
theorem inX4 : ∀ w ∈ wsX40, w ∈ lw_tbl := fun w h => wsL_law_in w (inlX4 w h)
theorem inlX5 : ∀ w ∈ wsX50, w ∈ wsL_law := fun _ h => List.mem_append_left _ (List.mem_append_left _ (List.mem_append_left _ (List.mem_append_left _ (List.mem_append_left _ (List.mem_append_left _ (List.mem_append_right _ h))))))
theorem inX5 : ∀ w ∈ wsX50, w ∈ lw_tbl := fun w h => wsL_law_in w (inlX5 w h)
theorem inlX6 : ∀ w ∈ wsX60, w ∈ wsL_law := fun _ h => List.mem_append_left _ (List.mem_append_left _ (List.mem_append_left _ (List.mem_append_left _ (List.mem_append_left _ (List.mem_append_left _ (List.mem_append_left _ (List.mem_append_left _ (List.mem_append_left _ (List.mem_append_left _ (List.mem_append_right _ h))))))))))
theorem inX6 : ∀ w ∈ wsX60, w ∈ lw_tbl := fun w h => wsL_law_in w (inlX6 w h)
theorem inlX7 : ∀ w ∈ wsX70, w ∈ wsL_law := fun _ h => List.mem_append_left _ (List.mem_append_left _ (List.mem_append_left _ (List.mem_append_left _ (List.mem_append_left _ (List.mem_append_left _ (List.mem_append_left _ (List.mem_append_left _ (List.mem_append_left _ (List.mem_append_right _ h)))))))))
theorem inX7 : ∀ w ∈ wsX70, w ∈ lw_tbl := fun w h => wsL_law_in w (inlX7 w h)
