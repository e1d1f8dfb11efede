/-- the words: of the tables, those that stay -/
def wsL_law : List Cond := lw_tbl.filter goodWord
theorem gdL : ∀ w ∈ wsL_law, goodWord w = true := fun w h => (List.mem_filter.mp h).2
theorem wsL_law_in : ∀ w ∈ wsL_law, w ∈ lw_tbl := fun w h => (List.mem_filter.mp h).1
theorem ml (i : Nat) {w : Cond} (h : lw_tbl[i]? = some w) (g : goodWord w = true) : w ∈ wsL_law := List.mem_filter.mpr ⟨List.mem_of_getElem? h, g⟩
theorem mls (ws : List Cond) (ps : List Nat) (hp : ws = ps.filterMap (fun i => lw_tbl[i]?)) (h : ws.all goodWord = true) : ∀ w ∈ ws, w ∈ wsL_law := fun w hw => by
  have h1 := List.all_eq_true.mp h w hw
  rw [hp] at hw
  obtain ⟨i, -, hi⟩ := List.mem_filterMap.mp hw
  exact ml i hi h1
set_option maxRecDepth 20000 in
theorem inlX0 : ∀ w ∈ wsX00, w ∈ wsL_law := mls _ [159, 161, 163, 165, 167, 169] (by decide +kernel) (by decide +kernel)
set_option maxRecDepth 20000 in
theorem inlX1 : ∀ w ∈ wsX10, w ∈ wsL_law := mls _ [208, 210, 212, 214, 216, 218, 220, 222, 224, 226, 228, 230] (by decide +kernel) (by decide +kernel)
set_option maxRecDepth 20000 in
theorem inlX2 : ∀ w ∈ wsX20, w ∈ wsL_law := mls _ [134, 136, 138, 140, 142, 144, 146] (by decide +kernel) (by decide +kernel)
set_option maxRecDepth 20000 in
theorem inlX3 : ∀ w ∈ wsX30, w ∈ wsL_law := mls _ [73, 75, 77, 79, 81, 83, 85, 87, 89, 91, 93, 95] (by decide +kernel) (by decide +kernel)
set_option maxRecDepth 20000 in
theorem inlX4 : ∀ w ∈ wsX40, w ∈ wsL_law := mls _ [239, 241, 243, 245, 247, 249] (by decide +kernel) (by decide +kernel)
set_option maxRecDepth 20000 in
theorem inlX5 : ∀ w ∈ wsX50, w ∈ wsL_law := mls _ [547, 549, 551, 553, 555, 557, 559, 561, 563, 565, 567, 569, 571, 573, 575, 577, 579, 581, 583, 585, 587, 589, 591, 593, 595, 597, 599, 601, 603, 605, 607, 609, 611, 613, 615, 617, 619, 621, 623, 625] (by decide +kernel) (by decide +kernel)
