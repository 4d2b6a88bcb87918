set_option maxRecDepth 20000 in
theorem inr_1 : ∀ w ∈ wsL_law_r1, w ∈ wsL_law := fun _ h => (List.mem_append_left _ (List.mem_append_left _ (List.mem_append_left _ (List.mem_append_left _ (List.mem_append_left _ (List.mem_append_left _ (List.mem_append_left _ (List.mem_append_left _ (List.mem_append_left _ (List.mem_append_left _ (List.mem_append_left _ (List.mem_append_left _ (List.mem_append_left _ h)))))))))))))
set_option maxRecDepth 20000 in
theorem inr_2 : ∀ w ∈ wsL_law_r2, w ∈ wsL_law := fun _ h => (List.mem_append_left _ (List.mem_append_left _ (List.mem_append_left _ (List.mem_append_left _ (List.mem_append_left _ (List.mem_append_left _ (List.mem_append_left _ (List.mem_append_left _ (List.mem_append_left _ (List.mem_append_left _ (List.mem_append_left _ (List.mem_append_left _ (List.mem_append_right _ (List.mem_append_left _ h))))))))))))))
set_option maxRecDepth 20000 in
theorem inr_3 : ∀ w ∈ wsL_law_r3, w ∈ wsL_law := fun _ h => (List.mem_append_left _ (List.mem_append_left _ (List.mem_append_left _ (List.mem_append_left _ (List.mem_append_left _ (List.mem_append_left _ (List.mem_append_left _ (List.mem_append_left _ (List.mem_append_left _ (List.mem_append_left _ (List.mem_append_left _ (List.mem_append_left _ (List.mem_append_right _ (List.mem_append_right _ (List.mem_append_left _ h)))))))))))))))
set_option maxRecDepth 20000 in
theorem inr_4 : ∀ w ∈ wsL_law_r4, w ∈ wsL_law := fun _ h => (List.mem_append_left _ (List.mem_append_left _ (List.mem_append_left _ (List.mem_append_left _ (List.mem_append_left _ (List.mem_append_left _ (List.mem_append_left _ (List.mem_append_left _ (List.mem_append_left _ (List.mem_append_left _ (List.mem_append_left _ (List.mem_append_left _ (List.mem_append_right _ (List.mem_append_right _ (List.mem_append_right _ (List.mem_append_left _ h))))))))))))))))
set_option maxRecDepth 20000 in
theorem inr_5 : ∀ w ∈ wsL_law_r5, w ∈ wsL_law := fun _ h => (List.mem_append_left _ (List.mem_append_left _ (List.mem_append_left _ (List.mem_append_left _ (List.mem_append_left _ (List.mem_append_left _ (List.mem_append_left _ (List.mem_append_left _ (List.mem_append_left _ (List.mem_append_left _ (List.mem_append_left _ (List.mem_append_left _ (List.mem_append_right _ (List.mem_append_right _ (List.mem_append_right _ (List.mem_append_right _ (List.mem_append_left _ h)))))))))))))))))
set_option maxRecDepth 20000 in
theorem inr_6 : ∀ w ∈ wsL_law_r6, w ∈ wsL_law := fun _ h => (List.mem_append_left _ (List.mem_append_left _ (List.mem_append_left _ (List.mem_append_left _ (List.mem_append_left _ (List.mem_append_left _ (List.mem_append_left _ (List.mem_append_left _ (List.mem_append_left _ (List.mem_append_left _ (List.mem_append_left _ (List.mem_append_left _ (List.mem_append_right _ (List.mem_append_right _ (List.mem_append_right _ (List.mem_append_right _ (List.mem_append_right _ (List.mem_append_left _ h))))))))))))))))))
set_option maxRecDepth 20000 in
theorem inr_7 : ∀ w ∈ wsL_law_r7, w ∈ wsL_law := fun _ h => (List.mem_append_left _ (List.mem_append_left _ (List.mem_append_left _ (List.mem_append_left _ (List.mem_append_left _ (List.mem_append_left _ (List.mem_append_left _ (List.mem_append_left _ (List.mem_append_left _ (List.mem_append_left _ (List.mem_append_left _ (List.mem_append_left _ (List.mem_append_right _ (List.mem_append_right _ (List.mem_append_right _ (List.mem_append_right _ (List.mem_append_right _ (List.mem_append_right _ (List.mem_append_left _ h)))))))))))))))))))
set_option maxRecDepth 20000 in
theorem inr_8 : ∀ w ∈ wsL_law_r8, w ∈ wsL_law := fun _ h => (List.mem_append_left _ (List.mem_append_left _ (List.mem_append_left _ (List.mem_append_left _ (List.mem_append_left _ (List.mem_append_left _ (List.mem_append_left _ (List.mem_append_left _ (List.mem_append_left _ (List.mem_append_left _ (List.mem_append_left _ (List.mem_append_left _ (List.mem_append_right _ (List.mem_append_right _ (List.mem_append_right _ (List.mem_append_right _ (List.mem_append_right _ (List.mem_append_right _ (List.mem_append_right _ (List.mem_append_left _ h))))))))))))))))))))
set_option maxRecDepth 20000 in
theorem inr_9 : ∀ w ∈ wsL_law_r9, w ∈ wsL_law := fun _ h => (List.mem_append_left _ (List.mem_append_left _ (List.mem_append_left _ (List.mem_append_left _ (List.mem_append_left _ (List.mem_append_left _ (List.mem_append_left _ (List.mem_append_left _ (List.mem_append_left _ (List.mem_append_left _ (List.mem_append_left _ (List.mem_append_left _ (List.mem_append_right _ (List.mem_append_right _ (List.mem_append_right _ (List.mem_append_right _ (List.mem_append_right _ (List.mem_append_right _ (List.mem_append_right _ (List.mem_append_right _ (List.mem_append_left _ h)))))))))))))))))))))
set_option maxRecDepth 20000 in
theorem inr_10 : ∀ w ∈ wsL_law_r10, w ∈ wsL_law := fun _ h => (List.mem_append_left _ (List.mem_append_left _ (List.mem_append_left _ (List.mem_append_left _ (List.mem_append_left _ (List.mem_append_left _ (List.mem_append_left _ (List.mem_append_left _ (List.mem_append_left _ (List.mem_append_left _ (List.mem_append_left _ (List.mem_append_left _ (List.mem_append_right _ (List.mem_append_right _ (List.mem_append_right _ (List.mem_append_right _ (List.mem_append_right _ (List.mem_append_right _ (List.mem_append_right _ (List.mem_append_right _ (List.mem_append_right _ (List.mem_append_left _ h))))))))))))))))))))))
set_option maxRecDepth 20000 in
theorem inr_11 : ∀ w ∈ wsL_law_r11, w ∈ wsL_law := fun _ h => (List.mem_append_left _ (List.mem_append_left _ (List.mem_append_left _ (List.mem_append_left _ (List.mem_append_left _ (List.mem_append_left _ (List.mem_append_left _ (List.mem_append_left _ (List.mem_append_left _ (List.mem_append_left _ (List.mem_append_left _ (List.mem_append_left _ (List.mem_append_right _ (List.mem_append_right _ (List.mem_append_right _ (List.mem_append_right _ (List.mem_append_right _ (List.mem_append_right _ (List.mem_append_right _ (List.mem_append_right _ (List.mem_append_right _ (List.mem_append_right _ (List.mem_append_left _ h)))))))))))))))))))))))
set_option maxRecDepth 20000 in
theorem inr_12 : ∀ w ∈ wsL_law_r12, w ∈ wsL_law := fun _ h => (List.mem_append_left _ (List.mem_append_left _ (List.mem_append_left _ (List.mem_append_left _ (List.mem_append_left _ (List.mem_append_left _ (List.mem_append_left _ (List.mem_append_left _ (List.mem_append_left _ (List.mem_append_left _ (List.mem_append_left _ (List.mem_append_left _ (List.mem_append_right _ (List.mem_append_right _ (List.mem_append_right _ (List.mem_append_right _ (List.mem_append_right _ (List.mem_append_right _ (List.mem_append_right _ (List.mem_append_right _ (List.mem_append_right _ (List.mem_append_right _ (List.mem_append_right _ (List.mem_append_left _ h))))))))))))))))))))))))
set_option maxRecDepth 20000 in
theorem inr_13 : ∀ w ∈ wsL_law_r13, w ∈ wsL_law := fun _ h => (List.mem_append_left _ (List.mem_append_left _ (List.mem_append_left _ (List.mem_append_left _ (List.mem_append_left _ (List.mem_append_left _ (List.mem_append_left _ (List.mem_append_left _ (List.mem_append_left _ (List.mem_append_left _ (List.mem_append_left _ (List.mem_append_left _ (List.mem_append_right _ (List.mem_append_right _ (List.mem_append_right _ (List.mem_append_right _ (List.mem_append_right _ (List.mem_append_right _ (List.mem_append_right _ (List.mem_append_right _ (List.mem_append_right _ (List.mem_append_right _ (List.mem_append_right _ (List.mem_append_right _ (List.mem_append_left _ h)))))))))))))))))))))))))
set_option maxRecDepth 20000 in
theorem inr_14 : ∀ w ∈ wsL_law_r14, w ∈ wsL_law := fun _ h => (List.mem_append_left _ (List.mem_append_left _ (List.mem_append_left _ (List.mem_append_left _ (List.mem_append_left _ (List.mem_append_left _ (List.mem_append_left _ (List.mem_append_left _ (List.mem_append_left _ (List.mem_append_left _ (List.mem_append_left _ (List.mem_append_left _ (List.mem_append_right _ (List.mem_append_right _ (List.mem_append_right _ (List.mem_append_right _ (List.mem_append_right _ (List.mem_append_right _ (List.mem_append_right _ (List.mem_append_right _ (List.mem_append_right _ (List.mem_append_right _ (List.mem_append_right _ (List.mem_append_right _ (List.mem_append_right _ (List.mem_append_left _ h))))))))))))))))))))))))))
set_option maxRecDepth 20000 in
theorem inr_15 : ∀ w ∈ wsL_law_r15, w ∈ wsL_law := fun _ h => (List.mem_append_left _ (List.mem_append_left _ (List.mem_append_left _ (List.mem_append_left _ (List.mem_append_left _ (List.mem_append_left _ (List.mem_append_left _ (List.mem_append_left _ (List.mem_append_left _ (List.mem_append_left _ (List.mem_append_left _ (List.mem_append_left _ (List.mem_append_right _ (List.mem_append_right _ (List.mem_append_right _ (List.mem_append_right _ (List.mem_append_right _ (List.mem_append_right _ (List.mem_append_right _ (List.mem_append_right _ (List.mem_append_right _ (List.mem_append_right _ (List.mem_append_right _ (List.mem_append_right _ (List.mem_append_right _ (List.mem_append_right _ (List.mem_append_left _ h)))))))))))))))))))))))))))
set_option maxRecDepth 20000 in
theorem inr_16 : ∀ w ∈ wsL_law_r16, w ∈ wsL_law := fun _ h => (List.mem_append_left _ (List.mem_append_left _ (List.mem_append_left _ (List.mem_append_left _ (List.mem_append_left _ (List.mem_append_left _ (List.mem_append_left _ (List.mem_append_left _ (List.mem_append_left _ (List.mem_append_left _ (List.mem_append_left _ (List.mem_append_left _ (List.mem_append_right _ (List.mem_append_right _ (List.mem_append_right _ (List.mem_append_right _ (List.mem_append_right _ (List.mem_append_right _ (List.mem_append_right _ (List.mem_append_right _ (List.mem_append_right _ (List.mem_append_right _ (List.mem_append_right _ (List.mem_append_right _ (List.mem_append_right _ (List.mem_append_right _ (List.mem_append_right _ (List.mem_append_left _ h))))))))))))))))))))))))))))
set_option maxRecDepth 20000 in
theorem inr_17 : ∀ w ∈ wsL_law_r17, w ∈ wsL_law := fun _ h => (List.mem_append_left _ (List.mem_append_left _ (List.mem_append_left _ (List.mem_append_left _ (List.mem_append_left _ (List.mem_append_left _ (List.mem_append_left _ (List.mem_append_left _ (List.mem_append_left _ (List.mem_append_left _ (List.mem_append_left _ (List.mem_append_left _ (List.mem_append_right _ (List.mem_append_right _ (List.mem_append_right _ (List.mem_append_right _ (List.mem_append_right _ (List.mem_append_right _ (List.mem_append_right _ (List.mem_append_right _ (List.mem_append_right _ (List.mem_append_right _ (List.mem_append_right _ (List.mem_append_right _ (List.mem_append_right _ (List.mem_append_right _ (List.mem_append_right _ (List.mem_append_right _ (List.mem_append_left _ h)))))))))))))))))))))))))))))
set_option maxRecDepth 20000 in
theorem inr_18 : ∀ w ∈ wsL_law_r18, w ∈ wsL_law := fun _ h => (List.mem_append_left _ (List.mem_append_left _ (List.mem_append_left _ (List.mem_append_left _ (List.mem_append_left _ (List.mem_append_left _ (List.mem_append_left _ (List.mem_append_left _ (List.mem_append_left _ (List.mem_append_left _ (List.mem_append_left _ (List.mem_append_left _ (List.mem_append_right _ (List.mem_append_right _ (List.mem_append_right _ (List.mem_append_right _ (List.mem_append_right _ (List.mem_append_right _ (List.mem_append_right _ (List.mem_append_right _ (List.mem_append_right _ (List.mem_append_right _ (List.mem_append_right _ (List.mem_append_right _ (List.mem_append_right _ (List.mem_append_right _ (List.mem_append_right _ (List.mem_append_right _ (List.mem_append_right _ (List.mem_append_left _ h))))))))))))))))))))))))))))))
set_option maxRecDepth 20000 in
theorem inr_19 : ∀ w ∈ wsL_law_r19, w ∈ wsL_law := fun _ h => (List.mem_append_left _ (List.mem_append_left _ (List.mem_append_left _ (List.mem_append_left _ (List.mem_append_left _ (List.mem_append_left _ (List.mem_append_left _ (List.mem_append_left _ (List.mem_append_left _ (List.mem_append_left _ (List.mem_append_left _ (List.mem_append_left _ (List.mem_append_right _ (List.mem_append_right _ (List.mem_append_right _ (List.mem_append_right _ (List.mem_append_right _ (List.mem_append_right _ (List.mem_append_right _ (List.mem_append_right _ (List.mem_append_right _ (List.mem_append_right _ (List.mem_append_right _ (List.mem_append_right _ (List.mem_append_right _ (List.mem_append_right _ (List.mem_append_right _ (List.mem_append_right _ (List.mem_append_right _ (List.mem_append_right _ (List.mem_append_left _ h)))))))))))))))))))))))))))))))
set_option maxRecDepth 20000 in
theorem inr_20 : ∀ w ∈ wsL_law_r20, w ∈ wsL_law := fun _ h => (List.mem_append_left _ (List.mem_append_left _ (List.mem_append_left _ (List.mem_append_left _ (List.mem_append_left _ (List.mem_append_left _ (List.mem_append_left _ (List.mem_append_left _ (List.mem_append_left _ (List.mem_append_left _ (List.mem_append_left _ (List.mem_append_left _ (List.mem_append_right _ (List.mem_append_right _ (List.mem_append_right _ (List.mem_append_right _ (List.mem_append_right _ (List.mem_append_right _ (List.mem_append_right _ (List.mem_append_right _ (List.mem_append_right _ (List.mem_append_right _ (List.mem_append_right _ (List.mem_append_right _ (List.mem_append_right _ (List.mem_append_right _ (List.mem_append_right _ (List.mem_append_right _ (List.mem_append_right _ (List.mem_append_right _ (List.mem_append_right _ (List.mem_append_left _ h))))))))))))))))))))))))))))))))
set_option maxRecDepth 20000 in
theorem inr_21 : ∀ w ∈ wsL_law_r21, w ∈ wsL_law := fun _ h => (List.mem_append_left _ (List.mem_append_left _ (List.mem_append_left _ (List.mem_append_left _ (List.mem_append_left _ (List.mem_append_left _ (List.mem_append_left _ (List.mem_append_left _ (List.mem_append_left _ (List.mem_append_left _ (List.mem_append_left _ (List.mem_append_left _ (List.mem_append_right _ (List.mem_append_right _ (List.mem_append_right _ (List.mem_append_right _ (List.mem_append_right _ (List.mem_append_right _ (List.mem_append_right _ (List.mem_append_right _ (List.mem_append_right _ (List.mem_append_right _ (List.mem_append_right _ (List.mem_append_right _ (List.mem_append_right _ (List.mem_append_right _ (List.mem_append_right _ (List.mem_append_right _ (List.mem_append_right _ (List.mem_append_right _ (List.mem_append_right _ (List.mem_append_right _ (List.mem_append_left _ h)))))))))))))))))))))))))))))))))
set_option maxRecDepth 20000 in
theorem inr_22 : ∀ w ∈ wsL_law_r22, w ∈ wsL_law := fun _ h => (List.mem_append_left _ (List.mem_append_left _ (List.mem_append_left _ (List.mem_append_left _ (List.mem_append_left _ (List.mem_append_left _ (List.mem_append_left _ (List.mem_append_left _ (List.mem_append_left _ (List.mem_append_left _ (List.mem_append_left _ (List.mem_append_left _ (List.mem_append_right _ (List.mem_append_right _ (List.mem_append_right _ (List.mem_append_right _ (List.mem_append_right _ (List.mem_append_right _ (List.mem_append_right _ (List.mem_append_right _ (List.mem_append_right _ (List.mem_append_right _ (List.mem_append_right _ (List.mem_append_right _ (List.mem_append_right _ (List.mem_append_right _ (List.mem_append_right _ (List.mem_append_right _ (List.mem_append_right _ (List.mem_append_right _ (List.mem_append_right _ (List.mem_append_right _ (List.mem_append_right _ (List.mem_append_left _ h))))))))))))))))))))))))))))))))))
set_option maxRecDepth 20000 in
theorem inr_23 : ∀ w ∈ wsL_law_r23, w ∈ wsL_law := fun _ h => (List.mem_append_left _ (List.mem_append_left _ (List.mem_append_left _ (List.mem_append_left _ (List.mem_append_left _ (List.mem_append_left _ (List.mem_append_left _ (List.mem_append_left _ (List.mem_append_left _ (List.mem_append_left _ (List.mem_append_left _ (List.mem_append_left _ (List.mem_append_right _ (List.mem_append_right _ (List.mem_append_right _ (List.mem_append_right _ (List.mem_append_right _ (List.mem_append_right _ (List.mem_append_right _ (List.mem_append_right _ (List.mem_append_right _ (List.mem_append_right _ (List.mem_append_right _ (List.mem_append_right _ (List.mem_append_right _ (List.mem_append_right _ (List.mem_append_right _ (List.mem_append_right _ (List.mem_append_right _ (List.mem_append_right _ (List.mem_append_right _ (List.mem_append_right _ (List.mem_append_right _ (List.mem_append_right _ (List.mem_append_left _ h)))))))))))))))))))))))))))))))))))
set_option maxRecDepth 20000 in
theorem inr_24 : ∀ w ∈ wsL_law_r24, w ∈ wsL_law := fun _ h => (List.mem_append_left _ (List.mem_append_left _ (List.mem_append_left _ (List.mem_append_left _ (List.mem_append_left _ (List.mem_append_left _ (List.mem_append_left _ (List.mem_append_left _ (List.mem_append_left _ (List.mem_append_left _ (List.mem_append_left _ (List.mem_append_left _ (List.mem_append_right _ (List.mem_append_right _ (List.mem_append_right _ (List.mem_append_right _ (List.mem_append_right _ (List.mem_append_right _ (List.mem_append_right _ (List.mem_append_right _ (List.mem_append_right _ (List.mem_append_right _ (List.mem_append_right _ (List.mem_append_right _ (List.mem_append_right _ (List.mem_append_right _ (List.mem_append_right _ (List.mem_append_right _ (List.mem_append_right _ (List.mem_append_right _ (List.mem_append_right _ (List.mem_append_right _ (List.mem_append_right _ (List.mem_append_right _ (List.mem_append_right _ (List.mem_append_left _ h))))))))))))))))))))))))))))))))))))
set_option maxRecDepth 20000 in
theorem inr_25 : ∀ w ∈ wsL_law_r25, w ∈ wsL_law := fun _ h => (List.mem_append_left _ (List.mem_append_left _ (List.mem_append_left _ (List.mem_append_left _ (List.mem_append_left _ (List.mem_append_left _ (List.mem_append_left _ (List.mem_append_left _ (List.mem_append_left _ (List.mem_append_left _ (List.mem_append_left _ (List.mem_append_left _ (List.mem_append_right _ (List.mem_append_right _ (List.mem_append_right _ (List.mem_append_right _ (List.mem_append_right _ (List.mem_append_right _ (List.mem_append_right _ (List.mem_append_right _ (List.mem_append_right _ (List.mem_append_right _ (List.mem_append_right _ (List.mem_append_right _ (List.mem_append_right _ (List.mem_append_right _ (List.mem_append_right _ (List.mem_append_right _ (List.mem_append_right _ (List.mem_append_right _ (List.mem_append_right _ (List.mem_append_right _ (List.mem_append_right _ (List.mem_append_right _ (List.mem_append_right _ (List.mem_append_right _ (List.mem_append_left _ h)))))))))))))))))))))))))))))))))))))
set_option maxRecDepth 20000 in
theorem inr_26 : ∀ w ∈ wsL_law_r26, w ∈ wsL_law := fun _ h => (List.mem_append_left _ (List.mem_append_left _ (List.mem_append_left _ (List.mem_append_left _ (List.mem_append_left _ (List.mem_append_left _ (List.mem_append_left _ (List.mem_append_left _ (List.mem_append_left _ (List.mem_append_left _ (List.mem_append_left _ (List.mem_append_left _ (List.mem_append_right _ (List.mem_append_right _ (List.mem_append_right _ (List.mem_append_right _ (List.mem_append_right _ (List.mem_append_right _ (List.mem_append_right _ (List.mem_append_right _ (List.mem_append_right _ (List.mem_append_right _ (List.mem_append_right _ (List.mem_append_right _ (List.mem_append_right _ (List.mem_append_right _ (List.mem_append_right _ (List.mem_append_right _ (List.mem_append_right _ (List.mem_append_right _ (List.mem_append_right _ (List.mem_append_right _ (List.mem_append_right _ (List.mem_append_right _ (List.mem_append_right _ (List.mem_append_right _ (List.mem_append_right _ (List.mem_append_left _ h))))))))))))))))))))))))))))))))))))))
set_option maxRecDepth 20000 in
theorem inr_27 : ∀ w ∈ wsL_law_r27, w ∈ wsL_law := fun _ h => (List.mem_append_left _ (List.mem_append_left _ (List.mem_append_left _ (List.mem_append_left _ (List.mem_append_left _ (List.mem_append_left _ (List.mem_append_left _ (List.mem_append_left _ (List.mem_append_left _ (List.mem_append_left _ (List.mem_append_left _ (List.mem_append_left _ (List.mem_append_right _ (List.mem_append_right _ (List.mem_append_right _ (List.mem_append_right _ (List.mem_append_right _ (List.mem_append_right _ (List.mem_append_right _ (List.mem_append_right _ (List.mem_append_right _ (List.mem_append_right _ (List.mem_append_right _ (List.mem_append_right _ (List.mem_append_right _ (List.mem_append_right _ (List.mem_append_right _ (List.mem_append_right _ (List.mem_append_right _ (List.mem_append_right _ (List.mem_append_right _ (List.mem_append_right _ (List.mem_append_right _ (List.mem_append_right _ (List.mem_append_right _ (List.mem_append_right _ (List.mem_append_right _ (List.mem_append_right _ (List.mem_append_left _ h)))))))))))))))))))))))))))))))))))))))
set_option maxRecDepth 20000 in
theorem inr_28 : ∀ w ∈ wsL_law_r28, w ∈ wsL_law := fun _ h => (List.mem_append_left _ (List.mem_append_left _ (List.mem_append_left _ (List.mem_append_left _ (List.mem_append_left _ (List.mem_append_left _ (List.mem_append_left _ (List.mem_append_left _ (List.mem_append_left _ (List.mem_append_left _ (List.mem_append_left _ (List.mem_append_left _ (List.mem_append_right _ (List.mem_append_right _ (List.mem_append_right _ (List.mem_append_right _ (List.mem_append_right _ (List.mem_append_right _ (List.mem_append_right _ (List.mem_append_right _ (List.mem_append_right _ (List.mem_append_right _ (List.mem_append_right _ (List.mem_append_right _ (List.mem_append_right _ (List.mem_append_right _ (List.mem_append_right _ (List.mem_append_right _ (List.mem_append_right _ (List.mem_append_right _ (List.mem_append_right _ (List.mem_append_right _ (List.mem_append_right _ (List.mem_append_right _ (List.mem_append_right _ (List.mem_append_right _ (List.mem_append_right _ (List.mem_append_right _ (List.mem_append_right _ (List.mem_append_left _ h))))))))))))))))))))))))))))))))))))))))
set_option maxRecDepth 20000 in
theorem inr_29 : ∀ w ∈ wsL_law_r29, w ∈ wsL_law := fun _ h => (List.mem_append_left _ (List.mem_append_left _ (List.mem_append_left _ (List.mem_append_left _ (List.mem_append_left _ (List.mem_append_left _ (List.mem_append_left _ (List.mem_append_left _ (List.mem_append_left _ (List.mem_append_left _ (List.mem_append_left _ (List.mem_append_left _ (List.mem_append_right _ (List.mem_append_right _ (List.mem_append_right _ (List.mem_append_right _ (List.mem_append_right _ (List.mem_append_right _ (List.mem_append_right _ (List.mem_append_right _ (List.mem_append_right _ (List.mem_append_right _ (List.mem_append_right _ (List.mem_append_right _ (List.mem_append_right _ (List.mem_append_right _ (List.mem_append_right _ (List.mem_append_right _ (List.mem_append_right _ (List.mem_append_right _ (List.mem_append_right _ (List.mem_append_right _ (List.mem_append_right _ (List.mem_append_right _ (List.mem_append_right _ (List.mem_append_right _ (List.mem_append_right _ (List.mem_append_right _ (List.mem_append_right _ (List.mem_append_right _ (List.mem_append_left _ h)))))))))))))))))))))))))))))))))))))))))
set_option maxRecDepth 20000 in
theorem inr_30 : ∀ w ∈ wsL_law_r30, w ∈ wsL_law := fun _ h => (List.mem_append_left _ (List.mem_append_left _ (List.mem_append_left _ (List.mem_append_left _ (List.mem_append_left _ (List.mem_append_left _ (List.mem_append_left _ (List.mem_append_left _ (List.mem_append_left _ (List.mem_append_left _ (List.mem_append_left _ (List.mem_append_left _ (List.mem_append_right _ (List.mem_append_right _ (List.mem_append_right _ (List.mem_append_right _ (List.mem_append_right _ (List.mem_append_right _ (List.mem_append_right _ (List.mem_append_right _ (List.mem_append_right _ (List.mem_append_right _ (List.mem_append_right _ (List.mem_append_right _ (List.mem_append_right _ (List.mem_append_right _ (List.mem_append_right _ (List.mem_append_right _ (List.mem_append_right _ (List.mem_append_right _ (List.mem_append_right _ (List.mem_append_right _ (List.mem_append_right _ (List.mem_append_right _ (List.mem_append_right _ (List.mem_append_right _ (List.mem_append_right _ (List.mem_append_right _ (List.mem_append_right _ (List.mem_append_right _ (List.mem_append_right _ (List.mem_append_left _ h))))))))))))))))))))))))))))))))))))))))))
set_option maxRecDepth 20000 in
theorem inr_31 : ∀ w ∈ wsL_law_r31, w ∈ wsL_law := fun _ h => (List.mem_append_left _ (List.mem_append_left _ (List.mem_append_left _ (List.mem_append_left _ (List.mem_append_left _ (List.mem_append_left _ (List.mem_append_left _ (List.mem_append_left _ (List.mem_append_left _ (List.mem_append_left _ (List.mem_append_left _ (List.mem_append_left _ (List.mem_append_right _ (List.mem_append_right _ (List.mem_append_right _ (List.mem_append_right _ (List.mem_append_right _ (List.mem_append_right _ (List.mem_append_right _ (List.mem_append_right _ (List.mem_append_right _ (List.mem_append_right _ (List.mem_append_right _ (List.mem_append_right _ (List.mem_append_right _ (List.mem_append_right _ (List.mem_append_right _ (List.mem_append_right _ (List.mem_append_right _ (List.mem_append_right _ (List.mem_append_right _ (List.mem_append_right _ (List.mem_append_right _ (List.mem_append_right _ (List.mem_append_right _ (List.mem_append_right _ (List.mem_append_right _ (List.mem_append_right _ (List.mem_append_right _ (List.mem_append_right _ (List.mem_append_right _ (List.mem_append_right _ (List.mem_append_left _ h)))))))))))))))))))))))))))))))))))))))))))
set_option maxRecDepth 20000 in
theorem inr_32 : ∀ w ∈ wsL_law_r32, w ∈ wsL_law := fun _ h => (List.mem_append_left _ (List.mem_append_left _ (List.mem_append_left _ (List.mem_append_left _ (List.mem_append_left _ (List.mem_append_left _ (List.mem_append_left _ (List.mem_append_left _ (List.mem_append_left _ (List.mem_append_left _ (List.mem_append_left _ (List.mem_append_left _ (List.mem_append_right _ (List.mem_append_right _ (List.mem_append_right _ (List.mem_append_right _ (List.mem_append_right _ (List.mem_append_right _ (List.mem_append_right _ (List.mem_append_right _ (List.mem_append_right _ (List.mem_append_right _ (List.mem_append_right _ (List.mem_append_right _ (List.mem_append_right _ (List.mem_append_right _ (List.mem_append_right _ (List.mem_append_right _ (List.mem_append_right _ (List.mem_append_right _ (List.mem_append_right _ (List.mem_append_right _ (List.mem_append_right _ (List.mem_append_right _ (List.mem_append_right _ (List.mem_append_right _ (List.mem_append_right _ (List.mem_append_right _ (List.mem_append_right _ (List.mem_append_right _ (List.mem_append_right _ (List.mem_append_right _ (List.mem_append_right _ (List.mem_append_left _ h))))))))))))))))))))))))))))))))))))))))))))
set_option maxRecDepth 20000 in
theorem inr_33 : ∀ w ∈ wsL_law_r33, w ∈ wsL_law := fun _ h => (List.mem_append_left _ (List.mem_append_left _ (List.mem_append_left _ (List.mem_append_left _ (List.mem_append_left _ (List.mem_append_left _ (List.mem_append_left _ (List.mem_append_left _ (List.mem_append_left _ (List.mem_append_left _ (List.mem_append_left _ (List.mem_append_left _ (List.mem_append_right _ (List.mem_append_right _ (List.mem_append_right _ (List.mem_append_right _ (List.mem_append_right _ (List.mem_append_right _ (List.mem_append_right _ (List.mem_append_right _ (List.mem_append_right _ (List.mem_append_right _ (List.mem_append_right _ (List.mem_append_right _ (List.mem_append_right _ (List.mem_append_right _ (List.mem_append_right _ (List.mem_append_right _ (List.mem_append_right _ (List.mem_append_right _ (List.mem_append_right _ (List.mem_append_right _ (List.mem_append_right _ (List.mem_append_right _ (List.mem_append_right _ (List.mem_append_right _ (List.mem_append_right _ (List.mem_append_right _ (List.mem_append_right _ (List.mem_append_right _ (List.mem_append_right _ (List.mem_append_right _ (List.mem_append_right _ (List.mem_append_right _ (List.mem_append_left _ h)))))))))))))))))))))))))))))))))))))))))))))
set_option maxRecDepth 20000 in
theorem inr_34 : ∀ w ∈ wsL_law_r34, w ∈ wsL_law := fun _ h => (List.mem_append_left _ (List.mem_append_left _ (List.mem_append_left _ (List.mem_append_left _ (List.mem_append_left _ (List.mem_append_left _ (List.mem_append_left _ (List.mem_append_left _ (List.mem_append_left _ (List.mem_append_left _ (List.mem_append_left _ (List.mem_append_left _ (List.mem_append_right _ (List.mem_append_right _ (List.mem_append_right _ (List.mem_append_right _ (List.mem_append_right _ (List.mem_append_right _ (List.mem_append_right _ (List.mem_append_right _ (List.mem_append_right _ (List.mem_append_right _ (List.mem_append_right _ (List.mem_append_right _ (List.mem_append_right _ (List.mem_append_right _ (List.mem_append_right _ (List.mem_append_right _ (List.mem_append_right _ (List.mem_append_right _ (List.mem_append_right _ (List.mem_append_right _ (List.mem_append_right _ (List.mem_append_right _ (List.mem_append_right _ (List.mem_append_right _ (List.mem_append_right _ (List.mem_append_right _ (List.mem_append_right _ (List.mem_append_right _ (List.mem_append_right _ (List.mem_append_right _ (List.mem_append_right _ (List.mem_append_right _ (List.mem_append_right _ (List.mem_append_left _ h))))))))))))))))))))))))))))))))))))))))))))))
set_option maxRecDepth 20000 in
theorem inr_35 : ∀ w ∈ wsL_law_r35, w ∈ wsL_law := fun _ h => (List.mem_append_left _ (List.mem_append_left _ (List.mem_append_left _ (List.mem_append_left _ (List.mem_append_left _ (List.mem_append_left _ (List.mem_append_left _ (List.mem_append_left _ (List.mem_append_left _ (List.mem_append_left _ (List.mem_append_left _ (List.mem_append_left _ (List.mem_append_right _ (List.mem_append_right _ (List.mem_append_right _ (List.mem_append_right _ (List.mem_append_right _ (List.mem_append_right _ (List.mem_append_right _ (List.mem_append_right _ (List.mem_append_right _ (List.mem_append_right _ (List.mem_append_right _ (List.mem_append_right _ (List.mem_append_right _ (List.mem_append_right _ (List.mem_append_right _ (List.mem_append_right _ (List.mem_append_right _ (List.mem_append_right _ (List.mem_append_right _ (List.mem_append_right _ (List.mem_append_right _ (List.mem_append_right _ (List.mem_append_right _ (List.mem_append_right _ (List.mem_append_right _ (List.mem_append_right _ (List.mem_append_right _ (List.mem_append_right _ (List.mem_append_right _ (List.mem_append_right _ (List.mem_append_right _ (List.mem_append_right _ (List.mem_append_right _ (List.mem_append_right _ (List.mem_append_left _ h)))))))))))))))))))))))))))))))))))))))))))))))
set_option maxRecDepth 20000 in
theorem inr_36 : ∀ w ∈ wsL_law_r36, w ∈ wsL_law := fun _ h => (List.mem_append_left _ (List.mem_append_left _ (List.mem_append_left _ (List.mem_append_left _ (List.mem_append_left _ (List.mem_append_left _ (List.mem_append_left _ (List.mem_append_left _ (List.mem_append_left _ (List.mem_append_left _ (List.mem_append_left _ (List.mem_append_left _ (List.mem_append_right _ (List.mem_append_right _ (List.mem_append_right _ (List.mem_append_right _ (List.mem_append_right _ (List.mem_append_right _ (List.mem_append_right _ (List.mem_append_right _ (List.mem_append_right _ (List.mem_append_right _ (List.mem_append_right _ (List.mem_append_right _ (List.mem_append_right _ (List.mem_append_right _ (List.mem_append_right _ (List.mem_append_right _ (List.mem_append_right _ (List.mem_append_right _ (List.mem_append_right _ (List.mem_append_right _ (List.mem_append_right _ (List.mem_append_right _ (List.mem_append_right _ (List.mem_append_right _ (List.mem_append_right _ (List.mem_append_right _ (List.mem_append_right _ (List.mem_append_right _ (List.mem_append_right _ (List.mem_append_right _ (List.mem_append_right _ (List.mem_append_right _ (List.mem_append_right _ (List.mem_append_right _ (List.mem_append_right _ (List.mem_append_left _ h))))))))))))))))))))))))))))))))))))))))))))))))
set_option maxRecDepth 20000 in
theorem inr_37 : ∀ w ∈ wsL_law_r37, w ∈ wsL_law := fun _ h => (List.mem_append_left _ (List.mem_append_left _ (List.mem_append_left _ (List.mem_append_left _ (List.mem_append_left _ (List.mem_append_left _ (List.mem_append_left _ (List.mem_append_left _ (List.mem_append_left _ (List.mem_append_left _ (List.mem_append_left _ (List.mem_append_left _ (List.mem_append_right _ (List.mem_append_right _ (List.mem_append_right _ (List.mem_append_right _ (List.mem_append_right _ (List.mem_append_right _ (List.mem_append_right _ (List.mem_append_right _ (List.mem_append_right _ (List.mem_append_right _ (List.mem_append_right _ (List.mem_append_right _ (List.mem_append_right _ (List.mem_append_right _ (List.mem_append_right _ (List.mem_append_right _ (List.mem_append_right _ (List.mem_append_right _ (List.mem_append_right _ (List.mem_append_right _ (List.mem_append_right _ (List.mem_append_right _ (List.mem_append_right _ (List.mem_append_right _ (List.mem_append_right _ (List.mem_append_right _ (List.mem_append_right _ (List.mem_append_right _ (List.mem_append_right _ (List.mem_append_right _ (List.mem_append_right _ (List.mem_append_right _ (List.mem_append_right _ (List.mem_append_right _ (List.mem_append_right _ (List.mem_append_right _ (List.mem_append_left _ h)))))))))))))))))))))))))))))))))))))))))))))))))
set_option maxRecDepth 20000 in
theorem inr_38 : ∀ w ∈ wsL_law_r38, w ∈ wsL_law := fun _ h => (List.mem_append_left _ (List.mem_append_left _ (List.mem_append_left _ (List.mem_append_left _ (List.mem_append_left _ (List.mem_append_left _ (List.mem_append_left _ (List.mem_append_left _ (List.mem_append_left _ (List.mem_append_left _ (List.mem_append_left _ (List.mem_append_left _ (List.mem_append_right _ (List.mem_append_right _ (List.mem_append_right _ (List.mem_append_right _ (List.mem_append_right _ (List.mem_append_right _ (List.mem_append_right _ (List.mem_append_right _ (List.mem_append_right _ (List.mem_append_right _ (List.mem_append_right _ (List.mem_append_right _ (List.mem_append_right _ (List.mem_append_right _ (List.mem_append_right _ (List.mem_append_right _ (List.mem_append_right _ (List.mem_append_right _ (List.mem_append_right _ (List.mem_append_right _ (List.mem_append_right _ (List.mem_append_right _ (List.mem_append_right _ (List.mem_append_right _ (List.mem_append_right _ (List.mem_append_right _ (List.mem_append_right _ (List.mem_append_right _ (List.mem_append_right _ (List.mem_append_right _ (List.mem_append_right _ (List.mem_append_right _ (List.mem_append_right _ (List.mem_append_right _ (List.mem_append_right _ (List.mem_append_right _ (List.mem_append_right _ (List.mem_append_left _ h))))))))))))))))))))))))))))))))))))))))))))))))))
set_option maxRecDepth 20000 in
theorem inr_39 : ∀ w ∈ wsL_law_r39, w ∈ wsL_law := fun _ h => (List.mem_append_left _ (List.mem_append_left _ (List.mem_append_left _ (List.mem_append_left _ (List.mem_append_left _ (List.mem_append_left _ (List.mem_append_left _ (List.mem_append_left _ (List.mem_append_left _ (List.mem_append_left _ (List.mem_append_left _ (List.mem_append_left _ (List.mem_append_right _ (List.mem_append_right _ (List.mem_append_right _ (List.mem_append_right _ (List.mem_append_right _ (List.mem_append_right _ (List.mem_append_right _ (List.mem_append_right _ (List.mem_append_right _ (List.mem_append_right _ (List.mem_append_right _ (List.mem_append_right _ (List.mem_append_right _ (List.mem_append_right _ (List.mem_append_right _ (List.mem_append_right _ (List.mem_append_right _ (List.mem_append_right _ (List.mem_append_right _ (List.mem_append_right _ (List.mem_append_right _ (List.mem_append_right _ (List.mem_append_right _ (List.mem_append_right _ (List.mem_append_right _ (List.mem_append_right _ (List.mem_append_right _ (List.mem_append_right _ (List.mem_append_right _ (List.mem_append_right _ (List.mem_append_right _ (List.mem_append_right _ (List.mem_append_right _ (List.mem_append_right _ (List.mem_append_right _ (List.mem_append_right _ (List.mem_append_right _ (List.mem_append_right _ (List.mem_append_left _ h)))))))))))))))))))))))))))))))))))))))))))))))))))
set_option maxRecDepth 20000 in
theorem inr_40 : ∀ w ∈ wsL_law_r40, w ∈ wsL_law := fun _ h => (List.mem_append_left _ (List.mem_append_left _ (List.mem_append_left _ (List.mem_append_left _ (List.mem_append_left _ (List.mem_append_left _ (List.mem_append_left _ (List.mem_append_left _ (List.mem_append_left _ (List.mem_append_left _ (List.mem_append_left _ (List.mem_append_left _ (List.mem_append_right _ (List.mem_append_right _ (List.mem_append_right _ (List.mem_append_right _ (List.mem_append_right _ (List.mem_append_right _ (List.mem_append_right _ (List.mem_append_right _ (List.mem_append_right _ (List.mem_append_right _ (List.mem_append_right _ (List.mem_append_right _ (List.mem_append_right _ (List.mem_append_right _ (List.mem_append_right _ (List.mem_append_right _ (List.mem_append_right _ (List.mem_append_right _ (List.mem_append_right _ (List.mem_append_right _ (List.mem_append_right _ (List.mem_append_right _ (List.mem_append_right _ (List.mem_append_right _ (List.mem_append_right _ (List.mem_append_right _ (List.mem_append_right _ (List.mem_append_right _ (List.mem_append_right _ (List.mem_append_right _ (List.mem_append_right _ (List.mem_append_right _ (List.mem_append_right _ (List.mem_append_right _ (List.mem_append_right _ (List.mem_append_right _ (List.mem_append_right _ (List.mem_append_right _ (List.mem_append_right _ (List.mem_append_left _ h))))))))))))))))))))))))))))))))))))))))))))))))))))
set_option maxRecDepth 20000 in
theorem inr_41 : ∀ w ∈ wsL_law_r41, w ∈ wsL_law := fun _ h => (List.mem_append_left _ (List.mem_append_left _ (List.mem_append_left _ (List.mem_append_left _ (List.mem_append_left _ (List.mem_append_left _ (List.mem_append_left _ (List.mem_append_left _ (List.mem_append_left _ (List.mem_append_left _ (List.mem_append_left _ (List.mem_append_left _ (List.mem_append_right _ (List.mem_append_right _ (List.mem_append_right _ (List.mem_append_right _ (List.mem_append_right _ (List.mem_append_right _ (List.mem_append_right _ (List.mem_append_right _ (List.mem_append_right _ (List.mem_append_right _ (List.mem_append_right _ (List.mem_append_right _ (List.mem_append_right _ (List.mem_append_right _ (List.mem_append_right _ (List.mem_append_right _ (List.mem_append_right _ (List.mem_append_right _ (List.mem_append_right _ (List.mem_append_right _ (List.mem_append_right _ (List.mem_append_right _ (List.mem_append_right _ (List.mem_append_right _ (List.mem_append_right _ (List.mem_append_right _ (List.mem_append_right _ (List.mem_append_right _ (List.mem_append_right _ (List.mem_append_right _ (List.mem_append_right _ (List.mem_append_right _ (List.mem_append_right _ (List.mem_append_right _ (List.mem_append_right _ (List.mem_append_right _ (List.mem_append_right _ (List.mem_append_right _ (List.mem_append_right _ (List.mem_append_right _ h))))))))))))))))))))))))))))))))))))))))))))))))))))
set_option maxRecDepth 20000 in
theorem ml_9 : Cond.code yX9_init cX9_init 2 none ∈ wsL_law := inr_1 _ (List.mem_of_getElem? (i := 9) rfl)
set_option maxRecDepth 20000 in
theorem ml_33 : Cond.fieldLink RX9 43 "BoardKeep" "voices" "LBoardKeep$Voices;" ∈ wsL_law := inr_2 _ (List.mem_of_getElem? (i := 9) rfl)
set_option maxRecDepth 20000 in
theorem ml_32 : Cond.initialized RX8 ∈ wsL_law := inr_2 _ (List.mem_of_getElem? (i := 8) rfl)
set_option maxRecDepth 20000 in
theorem ml_31 : Cond.instantiable RX8 5 ∈ wsL_law := inr_2 _ (List.mem_of_getElem? (i := 7) rfl)
set_option maxRecDepth 20000 in
theorem ml_30 : Cond.classLink RX9 40 RX8 ∈ wsL_law := inr_2 _ (List.mem_of_getElem? (i := 6) rfl)
set_option maxRecDepth 20000 in
theorem ml_29 : Cond.fieldLink RX9 36 "BoardKeep" "parting" "LBoardKeep$Parting;" ∈ wsL_law := inr_2 _ (List.mem_of_getElem? (i := 5) rfl)
set_option maxRecDepth 20000 in
theorem ml_28 : Cond.initialized RX3 ∈ wsL_law := inr_2 _ (List.mem_of_getElem? (i := 4) rfl)
set_option maxRecDepth 20000 in
theorem ml_27 : Cond.instantiable RX3 1 ∈ wsL_law := inr_2 _ (List.mem_of_getElem? (i := 3) rfl)
set_option maxRecDepth 20000 in
theorem ml_26 : Cond.classLink RX9 33 RX3 ∈ wsL_law := inr_2 _ (List.mem_of_getElem? (i := 2) rfl)
set_option maxRecDepth 20000 in
theorem ml_25 : Cond.fieldLink RX9 29 "BoardKeep" "found" "LBoardKeep$Room;" ∈ wsL_law := inr_2 _ (List.mem_of_getElem? (i := 1) rfl)
set_option maxRecDepth 20000 in
theorem ml_24 : Cond.initialized RX5 ∈ wsL_law := inr_2 _ (List.mem_of_getElem? (i := 0) rfl)
set_option maxRecDepth 20000 in
theorem ml_23 : Cond.instantiable RX5 3 ∈ wsL_law := inr_1 _ (List.mem_of_getElem? (i := 23) rfl)
set_option maxRecDepth 20000 in
theorem ml_22 : Cond.classLink RX9 26 RX5 ∈ wsL_law := inr_1 _ (List.mem_of_getElem? (i := 22) rfl)
set_option maxRecDepth 20000 in
theorem ml_21 : Cond.fieldLink RX9 22 "BoardKeep" "reader" "LBoardKeep$Reader;" ∈ wsL_law := inr_1 _ (List.mem_of_getElem? (i := 21) rfl)
set_option maxRecDepth 20000 in
theorem ml_20 : Cond.initialized RX4 ∈ wsL_law := inr_1 _ (List.mem_of_getElem? (i := 20) rfl)
set_option maxRecDepth 20000 in
theorem ml_19 : Cond.instantiable RX4 4 ∈ wsL_law := inr_1 _ (List.mem_of_getElem? (i := 19) rfl)
set_option maxRecDepth 20000 in
theorem ml_18 : Cond.classLink RX9 19 RX4 ∈ wsL_law := inr_1 _ (List.mem_of_getElem? (i := 18) rfl)
set_option maxRecDepth 20000 in
theorem ml_17 : Cond.fieldLink RX9 16 "BoardKeep" "kept" "LBoardKeep$Board;" ∈ wsL_law := inr_1 _ (List.mem_of_getElem? (i := 17) rfl)
set_option maxRecDepth 20000 in
theorem ml_16 : Cond.fieldLink RX9 10 "BoardKeep" "board" "LBoardKeep$Board;" ∈ wsL_law := inr_1 _ (List.mem_of_getElem? (i := 16) rfl)
set_option maxRecDepth 20000 in
theorem ml_15 : Cond.initialized RX0 ∈ wsL_law := inr_1 _ (List.mem_of_getElem? (i := 15) rfl)
set_option maxRecDepth 20000 in
theorem ml_14 : Cond.instantiable RX0 10 ∈ wsL_law := inr_1 _ (List.mem_of_getElem? (i := 14) rfl)
set_option maxRecDepth 20000 in
theorem ml_13 : Cond.classLink RX9 7 RX0 ∈ wsL_law := inr_1 _ (List.mem_of_getElem? (i := 13) rfl)
set_option maxRecDepth 20000 in
theorem ml_12 : Cond.code objectInit ⟨#[0xb1]⟩ 1 none ∈ wsL_law := inr_1 _ (List.mem_of_getElem? (i := 12) rfl)
set_option maxRecDepth 20000 in
theorem ml_11 : Cond.instanceMethod objectInit ∈ wsL_law := inr_1 _ (List.mem_of_getElem? (i := 11) rfl)
set_option maxRecDepth 20000 in
theorem ml_10 : Cond.methodLink RX9 1 objectInit ∈ wsL_law := inr_1 _ (List.mem_of_getElem? (i := 10) rfl)
set_option maxRecDepth 20000 in
theorem lp_wsX9_init_r1 : ∀ w ∈ wsX9_init_r1, w ∈ wsL_law := (List.forall_mem_cons.mpr ⟨ml_10, (List.forall_mem_cons.mpr ⟨ml_11, (List.forall_mem_cons.mpr ⟨ml_12, (List.forall_mem_cons.mpr ⟨ml_13, (List.forall_mem_cons.mpr ⟨ml_14, (List.forall_mem_cons.mpr ⟨ml_15, (List.forall_mem_cons.mpr ⟨ml_16, (List.forall_mem_cons.mpr ⟨ml_17, (List.forall_mem_cons.mpr ⟨ml_18, (List.forall_mem_cons.mpr ⟨ml_19, (List.forall_mem_cons.mpr ⟨ml_20, (List.forall_mem_cons.mpr ⟨ml_21, (List.forall_mem_cons.mpr ⟨ml_22, (List.forall_mem_cons.mpr ⟨ml_23, (List.forall_mem_cons.mpr ⟨ml_24, (List.forall_mem_cons.mpr ⟨ml_25, (List.forall_mem_cons.mpr ⟨ml_26, (List.forall_mem_cons.mpr ⟨ml_27, (List.forall_mem_cons.mpr ⟨ml_28, (List.forall_mem_cons.mpr ⟨ml_29, (List.forall_mem_cons.mpr ⟨ml_30, (List.forall_mem_cons.mpr ⟨ml_31, (List.forall_mem_cons.mpr ⟨ml_32, (List.forall_mem_cons.mpr ⟨ml_33, (fun _ h => absurd h List.not_mem_nil)⟩)⟩)⟩)⟩)⟩)⟩)⟩)⟩)⟩)⟩)⟩)⟩)⟩)⟩)⟩)⟩)⟩)⟩)⟩)⟩)⟩)⟩)⟩)⟩)
set_option maxRecDepth 20000 in
theorem ml_57 : Cond.instantiable RX2 7 ∈ wsL_law := inr_3 _ (List.mem_of_getElem? (i := 9) rfl)
set_option maxRecDepth 20000 in
theorem ml_56 : Cond.fieldLink RX0 40 "BoardKeep$Board" "laws" "[LBoardKeep$Law;" ∈ wsL_law := inr_3 _ (List.mem_of_getElem? (i := 8) rfl)
set_option maxRecDepth 20000 in
theorem ml_55 : Cond.initialized RX1 ∈ wsL_law := inr_3 _ (List.mem_of_getElem? (i := 7) rfl)
set_option maxRecDepth 20000 in
theorem ml_54 : Cond.instantiable RX1 3 ∈ wsL_law := inr_3 _ (List.mem_of_getElem? (i := 6) rfl)
set_option maxRecDepth 20000 in
theorem ml_53 : Cond.classLink RX0 37 RX1 ∈ wsL_law := inr_3 _ (List.mem_of_getElem? (i := 5) rfl)
set_option maxRecDepth 20000 in
theorem ml_52 : Cond.fieldLink RX0 34 "BoardKeep$Board" "waiting" "LBoardKeep$Row;" ∈ wsL_law := inr_3 _ (List.mem_of_getElem? (i := 4) rfl)
set_option maxRecDepth 20000 in
theorem ml_51 : Cond.fieldLink RX0 30 "BoardKeep$Board" "tape" "LBoardKeep$Row;" ∈ wsL_law := inr_3 _ (List.mem_of_getElem? (i := 3) rfl)
set_option maxRecDepth 20000 in
theorem ml_50 : Cond.initialized RX6 ∈ wsL_law := inr_3 _ (List.mem_of_getElem? (i := 2) rfl)
set_option maxRecDepth 20000 in
theorem ml_49 : Cond.instantiable RX6 2 ∈ wsL_law := inr_3 _ (List.mem_of_getElem? (i := 1) rfl)
set_option maxRecDepth 20000 in
theorem ml_48 : Cond.classLink RX0 25 RX6 ∈ wsL_law := inr_3 _ (List.mem_of_getElem? (i := 0) rfl)
set_option maxRecDepth 20000 in
theorem ml_47 : Cond.fieldLink RX0 21 "BoardKeep$Board" "z" "I" ∈ wsL_law := inr_2 _ (List.mem_of_getElem? (i := 23) rfl)
set_option maxRecDepth 20000 in
theorem ml_46 : Cond.fieldLink RX0 17 "BoardKeep$Board" "ink" "[I" ∈ wsL_law := inr_2 _ (List.mem_of_getElem? (i := 22) rfl)
set_option maxRecDepth 20000 in
theorem ml_45 : Cond.fieldLink RX0 11 "BoardKeep$Board" "lines" "[LBoardKeep$Line;" ∈ wsL_law := inr_2 _ (List.mem_of_getElem? (i := 21) rfl)
set_option maxRecDepth 20000 in
theorem ml_44 : Cond.classLink RX0 9 RX2 ∈ wsL_law := inr_2 _ (List.mem_of_getElem? (i := 20) rfl)
set_option maxRecDepth 20000 in
theorem ml_43 : Cond.methodLink RX0 3 objectInit ∈ wsL_law := inr_2 _ (List.mem_of_getElem? (i := 19) rfl)
set_option maxRecDepth 20000 in
theorem ml_42 : Cond.code yX0_init cX0_init 2 none ∈ wsL_law := inr_2 _ (List.mem_of_getElem? (i := 18) rfl)
set_option maxRecDepth 20000 in
theorem ml_41 : Cond.instanceMethod yX0_init ∈ wsL_law := inr_2 _ (List.mem_of_getElem? (i := 17) rfl)
set_option maxRecDepth 20000 in
theorem ml_40 : Cond.methodLink RX9 9 yX0_init ∈ wsL_law := inr_2 _ (List.mem_of_getElem? (i := 16) rfl)
set_option maxRecDepth 20000 in
theorem ml_39 : Cond.initialized RX7 ∈ wsL_law := inr_2 _ (List.mem_of_getElem? (i := 15) rfl)
set_option maxRecDepth 20000 in
theorem ml_38 : Cond.instantiable RX7 2 ∈ wsL_law := inr_2 _ (List.mem_of_getElem? (i := 14) rfl)
set_option maxRecDepth 20000 in
theorem ml_37 : Cond.fieldLink RX9 53 "BoardKeep" "errors" "[I" ∈ wsL_law := inr_2 _ (List.mem_of_getElem? (i := 13) rfl)
set_option maxRecDepth 20000 in
theorem ml_36 : Cond.arrayClass .int ∈ wsL_law := inr_2 _ (List.mem_of_getElem? (i := 12) rfl)
set_option maxRecDepth 20000 in
theorem ml_35 : Cond.fieldLink RX9 49 "BoardKeep" "sheets" "[LBoardKeep$Sheet;" ∈ wsL_law := inr_2 _ (List.mem_of_getElem? (i := 11) rfl)
set_option maxRecDepth 20000 in
theorem ml_34 : Cond.classLink RX9 47 RX7 ∈ wsL_law := inr_2 _ (List.mem_of_getElem? (i := 10) rfl)
set_option maxRecDepth 20000 in
theorem lp_wsX9_init_r2 : ∀ w ∈ wsX9_init_r2, w ∈ wsL_law := (List.forall_mem_cons.mpr ⟨ml_34, (List.forall_mem_cons.mpr ⟨ml_35, (List.forall_mem_cons.mpr ⟨ml_36, (List.forall_mem_cons.mpr ⟨ml_37, (List.forall_mem_cons.mpr ⟨ml_38, (List.forall_mem_cons.mpr ⟨ml_39, (List.forall_mem_cons.mpr ⟨ml_40, (List.forall_mem_cons.mpr ⟨ml_41, (List.forall_mem_cons.mpr ⟨ml_42, (List.forall_mem_cons.mpr ⟨ml_43, (List.forall_mem_cons.mpr ⟨ml_44, (List.forall_mem_cons.mpr ⟨ml_45, (List.forall_mem_cons.mpr ⟨ml_46, (List.forall_mem_cons.mpr ⟨ml_47, (List.forall_mem_cons.mpr ⟨ml_48, (List.forall_mem_cons.mpr ⟨ml_49, (List.forall_mem_cons.mpr ⟨ml_50, (List.forall_mem_cons.mpr ⟨ml_51, (List.forall_mem_cons.mpr ⟨ml_52, (List.forall_mem_cons.mpr ⟨ml_53, (List.forall_mem_cons.mpr ⟨ml_54, (List.forall_mem_cons.mpr ⟨ml_55, (List.forall_mem_cons.mpr ⟨ml_56, (List.forall_mem_cons.mpr ⟨ml_57, (fun _ h => absurd h List.not_mem_nil)⟩)⟩)⟩)⟩)⟩)⟩)⟩)⟩)⟩)⟩)⟩)⟩)⟩)⟩)⟩)⟩)⟩)⟩)⟩)⟩)⟩)⟩)⟩)⟩)
set_option maxRecDepth 20000 in
theorem ml_81 : Cond.classLink RX4 7 RX6 ∈ wsL_law := inr_4 _ (List.mem_of_getElem? (i := 9) rfl)
set_option maxRecDepth 20000 in
theorem ml_80 : Cond.methodLink RX4 1 objectInit ∈ wsL_law := inr_4 _ (List.mem_of_getElem? (i := 8) rfl)
set_option maxRecDepth 20000 in
theorem ml_79 : Cond.code yX4_init cX4_init 1 none ∈ wsL_law := inr_4 _ (List.mem_of_getElem? (i := 7) rfl)
set_option maxRecDepth 20000 in
theorem ml_78 : Cond.instanceMethod yX4_init ∈ wsL_law := inr_4 _ (List.mem_of_getElem? (i := 6) rfl)
set_option maxRecDepth 20000 in
theorem ml_77 : Cond.methodLink RX2 3 objectInit ∈ wsL_law := inr_4 _ (List.mem_of_getElem? (i := 5) rfl)
set_option maxRecDepth 20000 in
theorem ml_76 : Cond.code yX2_init cX2_init 1 none ∈ wsL_law := inr_4 _ (List.mem_of_getElem? (i := 4) rfl)
set_option maxRecDepth 20000 in
theorem ml_75 : Cond.instanceMethod yX2_init ∈ wsL_law := inr_4 _ (List.mem_of_getElem? (i := 3) rfl)
set_option maxRecDepth 20000 in
theorem ml_74 : Cond.methodLink RX1 11 yX6_init ∈ wsL_law := inr_4 _ (List.mem_of_getElem? (i := 2) rfl)
set_option maxRecDepth 20000 in
theorem ml_73 : Cond.fieldLink RX1 18 "BoardKeep$Law" "stack" "LBoardKeep$Row;" ∈ wsL_law := inr_4 _ (List.mem_of_getElem? (i := 1) rfl)
set_option maxRecDepth 20000 in
theorem ml_72 : Cond.fieldLink RX1 14 "BoardKeep$Law" "code" "LBoardKeep$Row;" ∈ wsL_law := inr_4 _ (List.mem_of_getElem? (i := 0) rfl)
set_option maxRecDepth 20000 in
theorem ml_71 : Cond.classLink RX1 7 RX6 ∈ wsL_law := inr_3 _ (List.mem_of_getElem? (i := 23) rfl)
set_option maxRecDepth 20000 in
theorem ml_70 : Cond.methodLink RX1 1 objectInit ∈ wsL_law := inr_3 _ (List.mem_of_getElem? (i := 22) rfl)
set_option maxRecDepth 20000 in
theorem ml_69 : Cond.code yX1_init cX1_init 1 none ∈ wsL_law := inr_3 _ (List.mem_of_getElem? (i := 21) rfl)
set_option maxRecDepth 20000 in
theorem ml_68 : Cond.instanceMethod yX1_init ∈ wsL_law := inr_3 _ (List.mem_of_getElem? (i := 20) rfl)
set_option maxRecDepth 20000 in
theorem ml_67 : Cond.fieldLink RX6 13 "BoardKeep$Row" "cells" "[I" ∈ wsL_law := inr_3 _ (List.mem_of_getElem? (i := 19) rfl)
set_option maxRecDepth 20000 in
theorem ml_66 : Cond.code Lib.Math.max.name Lib.Math.max.code 2 (some .int) ∈ wsL_law := inr_3 _ (List.mem_of_getElem? (i := 18) rfl)
set_option maxRecDepth 20000 in
theorem ml_65 : Cond.initialized "java/lang/Math" ∈ wsL_law := inr_3 _ (List.mem_of_getElem? (i := 17) rfl)
set_option maxRecDepth 20000 in
theorem ml_64 : Cond.static Lib.Math.max.name ∈ wsL_law := inr_3 _ (List.mem_of_getElem? (i := 16) rfl)
set_option maxRecDepth 20000 in
theorem ml_63 : Cond.methodLink RX6 7 Lib.Math.max.name ∈ wsL_law := inr_3 _ (List.mem_of_getElem? (i := 15) rfl)
set_option maxRecDepth 20000 in
theorem ml_62 : Cond.methodLink RX6 1 objectInit ∈ wsL_law := inr_3 _ (List.mem_of_getElem? (i := 14) rfl)
set_option maxRecDepth 20000 in
theorem ml_61 : Cond.code yX6_init cX6_init 2 none ∈ wsL_law := inr_3 _ (List.mem_of_getElem? (i := 13) rfl)
set_option maxRecDepth 20000 in
theorem ml_60 : Cond.instanceMethod yX6_init ∈ wsL_law := inr_3 _ (List.mem_of_getElem? (i := 12) rfl)
set_option maxRecDepth 20000 in
theorem ml_59 : Cond.methodLink RX0 27 yX6_init ∈ wsL_law := inr_3 _ (List.mem_of_getElem? (i := 11) rfl)
set_option maxRecDepth 20000 in
theorem ml_58 : Cond.initialized RX2 ∈ wsL_law := inr_3 _ (List.mem_of_getElem? (i := 10) rfl)
set_option maxRecDepth 20000 in
theorem lp_wsX9_init_r3 : ∀ w ∈ wsX9_init_r3, w ∈ wsL_law := (List.forall_mem_cons.mpr ⟨ml_58, (List.forall_mem_cons.mpr ⟨ml_59, (List.forall_mem_cons.mpr ⟨ml_60, (List.forall_mem_cons.mpr ⟨ml_61, (List.forall_mem_cons.mpr ⟨ml_62, (List.forall_mem_cons.mpr ⟨ml_63, (List.forall_mem_cons.mpr ⟨ml_64, (List.forall_mem_cons.mpr ⟨ml_65, (List.forall_mem_cons.mpr ⟨ml_66, (List.forall_mem_cons.mpr ⟨ml_67, (List.forall_mem_cons.mpr ⟨ml_68, (List.forall_mem_cons.mpr ⟨ml_69, (List.forall_mem_cons.mpr ⟨ml_70, (List.forall_mem_cons.mpr ⟨ml_71, (List.forall_mem_cons.mpr ⟨ml_72, (List.forall_mem_cons.mpr ⟨ml_73, (List.forall_mem_cons.mpr ⟨ml_74, (List.forall_mem_cons.mpr ⟨ml_75, (List.forall_mem_cons.mpr ⟨ml_76, (List.forall_mem_cons.mpr ⟨ml_77, (List.forall_mem_cons.mpr ⟨ml_78, (List.forall_mem_cons.mpr ⟨ml_79, (List.forall_mem_cons.mpr ⟨ml_80, (List.forall_mem_cons.mpr ⟨ml_81, (fun _ h => absurd h List.not_mem_nil)⟩)⟩)⟩)⟩)⟩)⟩)⟩)⟩)⟩)⟩)⟩)⟩)⟩)⟩)⟩)⟩)⟩)⟩)⟩)⟩)⟩)⟩)⟩)⟩)
set_option maxRecDepth 20000 in
theorem ml_103 : Cond.methodLink RX7 11 yX6_init ∈ wsL_law := inr_5 _ (List.mem_of_getElem? (i := 7) rfl)
set_option maxRecDepth 20000 in
theorem ml_102 : Cond.fieldLink RX7 14 "BoardKeep$Sheet" "row" "LBoardKeep$Row;" ∈ wsL_law := inr_5 _ (List.mem_of_getElem? (i := 6) rfl)
set_option maxRecDepth 20000 in
theorem ml_101 : Cond.classLink RX7 7 RX6 ∈ wsL_law := inr_5 _ (List.mem_of_getElem? (i := 5) rfl)
set_option maxRecDepth 20000 in
theorem ml_100 : Cond.methodLink RX7 1 objectInit ∈ wsL_law := inr_5 _ (List.mem_of_getElem? (i := 4) rfl)
set_option maxRecDepth 20000 in
theorem ml_99 : Cond.code yX7_init cX7_init 1 none ∈ wsL_law := inr_5 _ (List.mem_of_getElem? (i := 3) rfl)
set_option maxRecDepth 20000 in
theorem ml_98 : Cond.instanceMethod yX7_init ∈ wsL_law := inr_5 _ (List.mem_of_getElem? (i := 2) rfl)
set_option maxRecDepth 20000 in
theorem ml_97 : Cond.methodLink RX8 11 yX6_init ∈ wsL_law := inr_5 _ (List.mem_of_getElem? (i := 1) rfl)
set_option maxRecDepth 20000 in
theorem ml_96 : Cond.fieldLink RX8 14 "BoardKeep$Voices" "trace" "LBoardKeep$Row;" ∈ wsL_law := inr_5 _ (List.mem_of_getElem? (i := 0) rfl)
set_option maxRecDepth 20000 in
theorem ml_95 : Cond.classLink RX8 9 RX6 ∈ wsL_law := inr_4 _ (List.mem_of_getElem? (i := 23) rfl)
set_option maxRecDepth 20000 in
theorem ml_94 : Cond.methodLink RX8 3 objectInit ∈ wsL_law := inr_4 _ (List.mem_of_getElem? (i := 22) rfl)
set_option maxRecDepth 20000 in
theorem ml_93 : Cond.code yX8_init cX8_init 1 none ∈ wsL_law := inr_4 _ (List.mem_of_getElem? (i := 21) rfl)
set_option maxRecDepth 20000 in
theorem ml_92 : Cond.instanceMethod yX8_init ∈ wsL_law := inr_4 _ (List.mem_of_getElem? (i := 20) rfl)
set_option maxRecDepth 20000 in
theorem ml_91 : Cond.fieldLink RX3 11 "BoardKeep$Parting" "ends" "[I" ∈ wsL_law := inr_4 _ (List.mem_of_getElem? (i := 19) rfl)
set_option maxRecDepth 20000 in
theorem ml_90 : Cond.methodLink RX3 3 objectInit ∈ wsL_law := inr_4 _ (List.mem_of_getElem? (i := 18) rfl)
set_option maxRecDepth 20000 in
theorem ml_89 : Cond.code yX3_init cX3_init 1 none ∈ wsL_law := inr_4 _ (List.mem_of_getElem? (i := 17) rfl)
set_option maxRecDepth 20000 in
theorem ml_88 : Cond.instanceMethod yX3_init ∈ wsL_law := inr_4 _ (List.mem_of_getElem? (i := 16) rfl)
set_option maxRecDepth 20000 in
theorem ml_87 : Cond.methodLink RX5 3 objectInit ∈ wsL_law := inr_4 _ (List.mem_of_getElem? (i := 15) rfl)
set_option maxRecDepth 20000 in
theorem ml_86 : Cond.code yX5_init cX5_init 1 none ∈ wsL_law := inr_4 _ (List.mem_of_getElem? (i := 14) rfl)
set_option maxRecDepth 20000 in
theorem ml_85 : Cond.instanceMethod yX5_init ∈ wsL_law := inr_4 _ (List.mem_of_getElem? (i := 13) rfl)
set_option maxRecDepth 20000 in
theorem ml_84 : Cond.methodLink RX4 11 yX6_init ∈ wsL_law := inr_4 _ (List.mem_of_getElem? (i := 12) rfl)
set_option maxRecDepth 20000 in
theorem ml_83 : Cond.fieldLink RX4 20 "BoardKeep$Reader" "tape" "LBoardKeep$Row;" ∈ wsL_law := inr_4 _ (List.mem_of_getElem? (i := 11) rfl)
set_option maxRecDepth 20000 in
theorem ml_82 : Cond.fieldLink RX4 14 "BoardKeep$Reader" "code" "LBoardKeep$Row;" ∈ wsL_law := inr_4 _ (List.mem_of_getElem? (i := 10) rfl)
set_option maxRecDepth 20000 in
theorem lp_wsX9_init_r4 : ∀ w ∈ wsX9_init_r4, w ∈ wsL_law := (List.forall_mem_cons.mpr ⟨ml_82, (List.forall_mem_cons.mpr ⟨ml_83, (List.forall_mem_cons.mpr ⟨ml_84, (List.forall_mem_cons.mpr ⟨ml_85, (List.forall_mem_cons.mpr ⟨ml_86, (List.forall_mem_cons.mpr ⟨ml_87, (List.forall_mem_cons.mpr ⟨ml_88, (List.forall_mem_cons.mpr ⟨ml_89, (List.forall_mem_cons.mpr ⟨ml_90, (List.forall_mem_cons.mpr ⟨ml_91, (List.forall_mem_cons.mpr ⟨ml_92, (List.forall_mem_cons.mpr ⟨ml_93, (List.forall_mem_cons.mpr ⟨ml_94, (List.forall_mem_cons.mpr ⟨ml_95, (List.forall_mem_cons.mpr ⟨ml_96, (List.forall_mem_cons.mpr ⟨ml_97, (List.forall_mem_cons.mpr ⟨ml_98, (List.forall_mem_cons.mpr ⟨ml_99, (List.forall_mem_cons.mpr ⟨ml_100, (List.forall_mem_cons.mpr ⟨ml_101, (List.forall_mem_cons.mpr ⟨ml_102, (List.forall_mem_cons.mpr ⟨ml_103, (fun _ h => absurd h List.not_mem_nil)⟩)⟩)⟩)⟩)⟩)⟩)⟩)⟩)⟩)⟩)⟩)⟩)⟩)⟩)⟩)⟩)⟩)⟩)⟩)⟩)⟩)⟩)
set_option maxRecDepth 20000 in
theorem lp_wsX9_init : ∀ w ∈ wsX9_init, w ∈ wsL_law := (List.forall_mem_cons.mpr ⟨ml_9, (List.forall_mem_append.mpr ⟨(List.forall_mem_append.mpr ⟨(List.forall_mem_append.mpr ⟨(List.forall_mem_append.mpr ⟨(List.forall_mem_append.mpr ⟨(List.forall_mem_append.mpr ⟨(List.forall_mem_append.mpr ⟨(List.forall_mem_append.mpr ⟨(List.forall_mem_append.mpr ⟨(List.forall_mem_append.mpr ⟨(List.forall_mem_append.mpr ⟨lp_wsX9_init_r1, (List.forall_mem_append.mpr ⟨lp_wsX9_init_r2, (List.forall_mem_append.mpr ⟨lp_wsX9_init_r3, lp_wsX9_init_r4⟩)⟩)⟩), inlX0⟩), inlX9⟩), inlX4⟩), inlX5⟩), inlX3⟩), inlX8⟩), inlX7⟩), inlX6⟩), inlX1⟩), inlX2⟩)⟩)
set_option maxRecDepth 20000 in
theorem gL_law_X9_init : GoodIn wsL_law (wsX9_init) := goodIn_sub lp_wsX9_init (by decide +kernel)
set_option maxRecDepth 20000 in
theorem ml_106 : Cond.code yX10_init cX10_init 2 none ∈ wsL_law := inr_5 _ (List.mem_of_getElem? (i := 10) rfl)
set_option maxRecDepth 20000 in
theorem ml_120 : Cond.fieldLink RX10 46 "BoardKeepModel" "trace" "[I" ∈ wsL_law := inr_6 _ (List.mem_of_getElem? (i := 0) rfl)
set_option maxRecDepth 20000 in
theorem ml_119 : Cond.fieldLink RX10 43 "BoardKeepModel" "runs" "[I" ∈ wsL_law := inr_5 _ (List.mem_of_getElem? (i := 23) rfl)
set_option maxRecDepth 20000 in
theorem ml_118 : Cond.fieldLink RX10 40 "BoardKeepModel" "pile" "[I" ∈ wsL_law := inr_5 _ (List.mem_of_getElem? (i := 22) rfl)
set_option maxRecDepth 20000 in
theorem ml_117 : Cond.fieldLink RX10 37 "BoardKeepModel" "facts" "[I" ∈ wsL_law := inr_5 _ (List.mem_of_getElem? (i := 21) rfl)
set_option maxRecDepth 20000 in
theorem ml_116 : Cond.fieldLink RX10 34 "BoardKeepModel" "with" "[I" ∈ wsL_law := inr_5 _ (List.mem_of_getElem? (i := 20) rfl)
set_option maxRecDepth 20000 in
theorem ml_115 : Cond.fieldLink RX10 31 "BoardKeepModel" "act" "[I" ∈ wsL_law := inr_5 _ (List.mem_of_getElem? (i := 19) rfl)
set_option maxRecDepth 20000 in
theorem ml_114 : Cond.fieldLink RX10 28 "BoardKeepModel" "cells" "[I" ∈ wsL_law := inr_5 _ (List.mem_of_getElem? (i := 18) rfl)
set_option maxRecDepth 20000 in
theorem ml_113 : Cond.fieldLink RX10 25 "BoardKeepModel" "sizeOf" "[I" ∈ wsL_law := inr_5 _ (List.mem_of_getElem? (i := 17) rfl)
set_option maxRecDepth 20000 in
theorem ml_112 : Cond.fieldLink RX10 22 "BoardKeepModel" "bitsOf" "[I" ∈ wsL_law := inr_5 _ (List.mem_of_getElem? (i := 16) rfl)
set_option maxRecDepth 20000 in
theorem ml_111 : Cond.fieldLink RX10 19 "BoardKeepModel" "errors" "[I" ∈ wsL_law := inr_5 _ (List.mem_of_getElem? (i := 15) rfl)
set_option maxRecDepth 20000 in
theorem ml_110 : Cond.fieldLink RX10 16 "BoardKeepModel" "before" "[I" ∈ wsL_law := inr_5 _ (List.mem_of_getElem? (i := 14) rfl)
set_option maxRecDepth 20000 in
theorem ml_109 : Cond.fieldLink RX10 13 "BoardKeepModel" "kept" "[I" ∈ wsL_law := inr_5 _ (List.mem_of_getElem? (i := 13) rfl)
set_option maxRecDepth 20000 in
theorem ml_108 : Cond.fieldLink RX10 9 "BoardKeepModel" "row" "[I" ∈ wsL_law := inr_5 _ (List.mem_of_getElem? (i := 12) rfl)
set_option maxRecDepth 20000 in
theorem ml_107 : Cond.methodLink RX10 3 objectInit ∈ wsL_law := inr_5 _ (List.mem_of_getElem? (i := 11) rfl)
set_option maxRecDepth 20000 in
theorem lp_wsX10_init : ∀ w ∈ wsX10_init, w ∈ wsL_law := (List.forall_mem_cons.mpr ⟨ml_106, (List.forall_mem_append.mpr ⟨(List.forall_mem_cons.mpr ⟨ml_107, (List.forall_mem_cons.mpr ⟨ml_11, (List.forall_mem_cons.mpr ⟨ml_12, (List.forall_mem_cons.mpr ⟨ml_36, (List.forall_mem_cons.mpr ⟨ml_108, (List.forall_mem_cons.mpr ⟨ml_109, (List.forall_mem_cons.mpr ⟨ml_110, (List.forall_mem_cons.mpr ⟨ml_111, (List.forall_mem_cons.mpr ⟨ml_112, (List.forall_mem_cons.mpr ⟨ml_113, (List.forall_mem_cons.mpr ⟨ml_114, (List.forall_mem_cons.mpr ⟨ml_115, (List.forall_mem_cons.mpr ⟨ml_116, (List.forall_mem_cons.mpr ⟨ml_117, (List.forall_mem_cons.mpr ⟨ml_118, (List.forall_mem_cons.mpr ⟨ml_119, (List.forall_mem_cons.mpr ⟨ml_120, (fun _ h => absurd h List.not_mem_nil)⟩)⟩)⟩)⟩)⟩)⟩)⟩)⟩)⟩)⟩)⟩)⟩)⟩)⟩)⟩)⟩)⟩), inlX10⟩)⟩)
set_option maxRecDepth 20000 in
theorem gL_law_X10_init : GoodIn wsL_law (wsX10_init) := goodIn_sub lp_wsX10_init (by decide +kernel)
set_option maxRecDepth 20000 in
theorem ml_124 : Cond.code yX9_write cX9_write 8 (some .int) ∈ wsL_law := inr_6 _ (List.mem_of_getElem? (i := 4) rfl)
set_option maxRecDepth 20000 in
theorem ml_144 : Cond.instanceMethod yX0_takenBehind ∈ wsL_law := inr_7 _ (List.mem_of_getElem? (i := 0) rfl)
set_option maxRecDepth 20000 in
theorem ml_143 : Cond.methodLink RX0 108 yX0_takenBehind ∈ wsL_law := inr_6 _ (List.mem_of_getElem? (i := 23) rfl)
set_option maxRecDepth 20000 in
theorem ml_142 : Cond.code yX0_taken cX0_taken 1 (some .int) ∈ wsL_law := inr_6 _ (List.mem_of_getElem? (i := 22) rfl)
set_option maxRecDepth 20000 in
theorem ml_141 : Cond.selects RX0 yX0_taken yX0_taken ∈ wsL_law := inr_6 _ (List.mem_of_getElem? (i := 21) rfl)
set_option maxRecDepth 20000 in
theorem ml_140 : Cond.instanceMethod yX0_taken ∈ wsL_law := inr_6 _ (List.mem_of_getElem? (i := 20) rfl)
set_option maxRecDepth 20000 in
theorem ml_139 : Cond.methodLink RX9 78 yX0_taken ∈ wsL_law := inr_6 _ (List.mem_of_getElem? (i := 19) rfl)
set_option maxRecDepth 20000 in
theorem ml_138 : Cond.code yX9_columnsFrom cX9_columnsFrom 2 (some .int) ∈ wsL_law := inr_6 _ (List.mem_of_getElem? (i := 18) rfl)
set_option maxRecDepth 20000 in
theorem ml_137 : Cond.static yX9_columnsFrom ∈ wsL_law := inr_6 _ (List.mem_of_getElem? (i := 17) rfl)
set_option maxRecDepth 20000 in
theorem ml_136 : Cond.methodLink RX9 74 yX9_columnsFrom ∈ wsL_law := inr_6 _ (List.mem_of_getElem? (i := 16) rfl)
set_option maxRecDepth 20000 in
theorem ml_135 : Cond.constant RX9 299 (-1000000000) ∈ wsL_law := inr_6 _ (List.mem_of_getElem? (i := 15) rfl)
set_option maxRecDepth 20000 in
theorem ml_134 : Cond.code yX9_error cX9_error 2 (some .int) ∈ wsL_law := inr_6 _ (List.mem_of_getElem? (i := 14) rfl)
set_option maxRecDepth 20000 in
theorem ml_133 : Cond.selects RX9 yX9_error yX9_error ∈ wsL_law := inr_6 _ (List.mem_of_getElem? (i := 13) rfl)
set_option maxRecDepth 20000 in
theorem ml_132 : Cond.instanceMethod yX9_error ∈ wsL_law := inr_6 _ (List.mem_of_getElem? (i := 12) rfl)
set_option maxRecDepth 20000 in
theorem ml_131 : Cond.methodLink RX9 66 yX9_error ∈ wsL_law := inr_6 _ (List.mem_of_getElem? (i := 11) rfl)
set_option maxRecDepth 20000 in
theorem ml_130 : Cond.code yX9_isIn cX9_isIn 3 (some .boolean) ∈ wsL_law := inr_6 _ (List.mem_of_getElem? (i := 10) rfl)
set_option maxRecDepth 20000 in
theorem ml_129 : Cond.static yX9_isIn ∈ wsL_law := inr_6 _ (List.mem_of_getElem? (i := 9) rfl)
set_option maxRecDepth 20000 in
theorem ml_128 : Cond.methodLink RX9 62 yX9_isIn ∈ wsL_law := inr_6 _ (List.mem_of_getElem? (i := 8) rfl)
set_option maxRecDepth 20000 in
theorem ml_127 : Cond.code yX9_isKm cX9_isKm 1 (some .boolean) ∈ wsL_law := inr_6 _ (List.mem_of_getElem? (i := 7) rfl)
set_option maxRecDepth 20000 in
theorem ml_2 : Cond.initialized RX9 ∈ wsL_law := inr_1 _ (List.mem_of_getElem? (i := 2) rfl)
set_option maxRecDepth 20000 in
theorem ml_126 : Cond.static yX9_isKm ∈ wsL_law := inr_6 _ (List.mem_of_getElem? (i := 6) rfl)
set_option maxRecDepth 20000 in
theorem ml_125 : Cond.methodLink RX9 58 yX9_isKm ∈ wsL_law := inr_6 _ (List.mem_of_getElem? (i := 5) rfl)
set_option maxRecDepth 20000 in
theorem lp_wsX9_write_r1 : ∀ w ∈ wsX9_write_r1, w ∈ wsL_law := (List.forall_mem_cons.mpr ⟨ml_16, (List.forall_mem_cons.mpr ⟨ml_125, (List.forall_mem_cons.mpr ⟨ml_126, (List.forall_mem_cons.mpr ⟨ml_2, (List.forall_mem_cons.mpr ⟨ml_127, (List.forall_mem_cons.mpr ⟨ml_128, (List.forall_mem_cons.mpr ⟨ml_129, (List.forall_mem_cons.mpr ⟨ml_130, (List.forall_mem_cons.mpr ⟨ml_131, (List.forall_mem_cons.mpr ⟨ml_132, (List.forall_mem_cons.mpr ⟨ml_133, (List.forall_mem_cons.mpr ⟨ml_134, (List.forall_mem_cons.mpr ⟨ml_37, (List.forall_mem_cons.mpr ⟨ml_135, (List.forall_mem_cons.mpr ⟨ml_136, (List.forall_mem_cons.mpr ⟨ml_137, (List.forall_mem_cons.mpr ⟨ml_138, (List.forall_mem_cons.mpr ⟨ml_139, (List.forall_mem_cons.mpr ⟨ml_140, (List.forall_mem_cons.mpr ⟨ml_141, (List.forall_mem_cons.mpr ⟨ml_15, (List.forall_mem_cons.mpr ⟨ml_142, (List.forall_mem_cons.mpr ⟨ml_143, (List.forall_mem_cons.mpr ⟨ml_144, (fun _ h => absurd h List.not_mem_nil)⟩)⟩)⟩)⟩)⟩)⟩)⟩)⟩)⟩)⟩)⟩)⟩)⟩)⟩)⟩)⟩)⟩)⟩)⟩)⟩)⟩)⟩)⟩)⟩)
set_option maxRecDepth 20000 in
theorem ml_163 : Cond.fieldLink RX2 15 "BoardKeep$Line" "m" "I" ∈ wsL_law := inr_7 _ (List.mem_of_getElem? (i := 19) rfl)
set_option maxRecDepth 20000 in
theorem ml_162 : Cond.fieldLink RX2 9 "BoardKeep$Line" "kind" "I" ∈ wsL_law := inr_7 _ (List.mem_of_getElem? (i := 18) rfl)
set_option maxRecDepth 20000 in
theorem ml_161 : Cond.code yX2_ripeAge cX2_ripeAge 2 (some .int) ∈ wsL_law := inr_7 _ (List.mem_of_getElem? (i := 17) rfl)
set_option maxRecDepth 20000 in
theorem ml_160 : Cond.selects RX2 yX2_ripeAge yX2_ripeAge ∈ wsL_law := inr_7 _ (List.mem_of_getElem? (i := 16) rfl)
set_option maxRecDepth 20000 in
theorem ml_159 : Cond.instanceMethod yX2_ripeAge ∈ wsL_law := inr_7 _ (List.mem_of_getElem? (i := 15) rfl)
set_option maxRecDepth 20000 in
theorem ml_158 : Cond.methodLink RX2 45 yX2_ripeAge ∈ wsL_law := inr_7 _ (List.mem_of_getElem? (i := 14) rfl)
set_option maxRecDepth 20000 in
theorem ml_157 : Cond.methodLink RX2 38 Lib.Math.max.name ∈ wsL_law := inr_7 _ (List.mem_of_getElem? (i := 13) rfl)
set_option maxRecDepth 20000 in
theorem ml_156 : Cond.fieldLink RX2 24 "BoardKeep$Line" "dated" "I" ∈ wsL_law := inr_7 _ (List.mem_of_getElem? (i := 12) rfl)
set_option maxRecDepth 20000 in
theorem ml_155 : Cond.constant RX2 44 (1000000) ∈ wsL_law := inr_7 _ (List.mem_of_getElem? (i := 11) rfl)
set_option maxRecDepth 20000 in
theorem ml_154 : Cond.fieldLink RX2 30 "BoardKeep$Line" "gone" "Z" ∈ wsL_law := inr_7 _ (List.mem_of_getElem? (i := 10) rfl)
set_option maxRecDepth 20000 in
theorem ml_153 : Cond.code yX2_goesBehind cX2_goesBehind 4 (some .int) ∈ wsL_law := inr_7 _ (List.mem_of_getElem? (i := 9) rfl)
set_option maxRecDepth 20000 in
theorem ml_152 : Cond.selects RX2 yX2_goesBehind yX2_goesBehind ∈ wsL_law := inr_7 _ (List.mem_of_getElem? (i := 8) rfl)
set_option maxRecDepth 20000 in
theorem ml_151 : Cond.instanceMethod yX2_goesBehind ∈ wsL_law := inr_7 _ (List.mem_of_getElem? (i := 7) rfl)
set_option maxRecDepth 20000 in
theorem ml_150 : Cond.methodLink RX0 77 yX2_goesBehind ∈ wsL_law := inr_7 _ (List.mem_of_getElem? (i := 6) rfl)
set_option maxRecDepth 20000 in
theorem ml_149 : Cond.fieldLink RX0 55 "BoardKeep$Board" "spirit" "I" ∈ wsL_law := inr_7 _ (List.mem_of_getElem? (i := 5) rfl)
set_option maxRecDepth 20000 in
theorem ml_148 : Cond.fieldLink RX0 52 "BoardKeep$Board" "day" "I" ∈ wsL_law := inr_7 _ (List.mem_of_getElem? (i := 4) rfl)
set_option maxRecDepth 20000 in
theorem ml_147 : Cond.fieldLink RX0 45 "BoardKeep$Board" "many" "I" ∈ wsL_law := inr_7 _ (List.mem_of_getElem? (i := 3) rfl)
set_option maxRecDepth 20000 in
theorem ml_146 : Cond.code yX0_takenBehind cX0_takenBehind 4 (some .int) ∈ wsL_law := inr_7 _ (List.mem_of_getElem? (i := 2) rfl)
set_option maxRecDepth 20000 in
theorem ml_145 : Cond.selects RX0 yX0_takenBehind yX0_takenBehind ∈ wsL_law := inr_7 _ (List.mem_of_getElem? (i := 1) rfl)
set_option maxRecDepth 20000 in
theorem lp_wsX9_write_r2 : ∀ w ∈ wsX9_write_r2, w ∈ wsL_law := (List.forall_mem_cons.mpr ⟨ml_145, (List.forall_mem_cons.mpr ⟨ml_146, (List.forall_mem_cons.mpr ⟨ml_147, (List.forall_mem_cons.mpr ⟨ml_45, (List.forall_mem_cons.mpr ⟨ml_148, (List.forall_mem_cons.mpr ⟨ml_149, (List.forall_mem_cons.mpr ⟨ml_150, (List.forall_mem_cons.mpr ⟨ml_151, (List.forall_mem_cons.mpr ⟨ml_152, (List.forall_mem_cons.mpr ⟨ml_58, (List.forall_mem_cons.mpr ⟨ml_153, (List.forall_mem_cons.mpr ⟨ml_154, (List.forall_mem_cons.mpr ⟨ml_155, (List.forall_mem_cons.mpr ⟨ml_156, (List.forall_mem_cons.mpr ⟨ml_157, (List.forall_mem_cons.mpr ⟨ml_64, (List.forall_mem_cons.mpr ⟨ml_65, (List.forall_mem_cons.mpr ⟨ml_66, (List.forall_mem_cons.mpr ⟨ml_158, (List.forall_mem_cons.mpr ⟨ml_159, (List.forall_mem_cons.mpr ⟨ml_160, (List.forall_mem_cons.mpr ⟨ml_161, (List.forall_mem_cons.mpr ⟨ml_162, (List.forall_mem_cons.mpr ⟨ml_163, (fun _ h => absurd h List.not_mem_nil)⟩)⟩)⟩)⟩)⟩)⟩)⟩)⟩)⟩)⟩)⟩)⟩)⟩)⟩)⟩)⟩)⟩)⟩)⟩)⟩)⟩)⟩)⟩)⟩)
set_option maxRecDepth 20000 in
theorem ml_174 : Cond.fieldLink RX2 27 "BoardKeep$Line" "photo" "I" ∈ wsL_law := inr_8 _ (List.mem_of_getElem? (i := 6) rfl)
set_option maxRecDepth 20000 in
theorem ml_173 : Cond.fieldLink RX2 21 "BoardKeep$Line" "who" "I" ∈ wsL_law := inr_8 _ (List.mem_of_getElem? (i := 5) rfl)
set_option maxRecDepth 20000 in
theorem ml_172 : Cond.fieldLink RX2 18 "BoardKeep$Line" "columns" "I" ∈ wsL_law := inr_8 _ (List.mem_of_getElem? (i := 4) rfl)
set_option maxRecDepth 20000 in
theorem ml_171 : Cond.code yX2_begin cX2_begin 6 none ∈ wsL_law := inr_8 _ (List.mem_of_getElem? (i := 3) rfl)
set_option maxRecDepth 20000 in
theorem ml_170 : Cond.selects RX2 yX2_begin yX2_begin ∈ wsL_law := inr_8 _ (List.mem_of_getElem? (i := 2) rfl)
set_option maxRecDepth 20000 in
theorem ml_169 : Cond.instanceMethod yX2_begin ∈ wsL_law := inr_8 _ (List.mem_of_getElem? (i := 1) rfl)
set_option maxRecDepth 20000 in
theorem ml_168 : Cond.methodLink RX0 73 yX2_begin ∈ wsL_law := inr_8 _ (List.mem_of_getElem? (i := 0) rfl)
set_option maxRecDepth 20000 in
theorem ml_167 : Cond.code yX0_addLine cX0_addLine 5 (some .int) ∈ wsL_law := inr_7 _ (List.mem_of_getElem? (i := 23) rfl)
set_option maxRecDepth 20000 in
theorem ml_166 : Cond.selects RX0 yX0_addLine yX0_addLine ∈ wsL_law := inr_7 _ (List.mem_of_getElem? (i := 22) rfl)
set_option maxRecDepth 20000 in
theorem ml_165 : Cond.instanceMethod yX0_addLine ∈ wsL_law := inr_7 _ (List.mem_of_getElem? (i := 21) rfl)
set_option maxRecDepth 20000 in
theorem ml_164 : Cond.methodLink RX9 85 yX0_addLine ∈ wsL_law := inr_7 _ (List.mem_of_getElem? (i := 20) rfl)
set_option maxRecDepth 20000 in
theorem lp_wsX9_write_r3 : ∀ w ∈ wsX9_write_r3, w ∈ wsL_law := (List.forall_mem_cons.mpr ⟨ml_164, (List.forall_mem_cons.mpr ⟨ml_165, (List.forall_mem_cons.mpr ⟨ml_166, (List.forall_mem_cons.mpr ⟨ml_167, (List.forall_mem_cons.mpr ⟨ml_168, (List.forall_mem_cons.mpr ⟨ml_169, (List.forall_mem_cons.mpr ⟨ml_170, (List.forall_mem_cons.mpr ⟨ml_171, (List.forall_mem_cons.mpr ⟨ml_172, (List.forall_mem_cons.mpr ⟨ml_173, (List.forall_mem_cons.mpr ⟨ml_174, (fun _ h => absurd h List.not_mem_nil)⟩)⟩)⟩)⟩)⟩)⟩)⟩)⟩)⟩)⟩)⟩)
set_option maxRecDepth 20000 in
theorem lp_wsX9_write : ∀ w ∈ wsX9_write, w ∈ wsL_law := (List.forall_mem_cons.mpr ⟨ml_124, (List.forall_mem_append.mpr ⟨(List.forall_mem_append.mpr ⟨(List.forall_mem_append.mpr ⟨(List.forall_mem_append.mpr ⟨lp_wsX9_write_r1, (List.forall_mem_append.mpr ⟨lp_wsX9_write_r2, lp_wsX9_write_r3⟩)⟩), inlX9⟩), inlX0⟩), inlX2⟩)⟩)
set_option maxRecDepth 20000 in
theorem ml_121 : Cond.methodLink RL 13 yX9_write ∈ wsL_law := inr_6 _ (List.mem_of_getElem? (i := 1) rfl)
set_option maxRecDepth 20000 in
theorem ml_122 : Cond.instanceMethod yX9_write ∈ wsL_law := inr_6 _ (List.mem_of_getElem? (i := 2) rfl)
set_option maxRecDepth 20000 in
theorem ml_123 : Cond.selects RX9 yX9_write yX9_write ∈ wsL_law := inr_6 _ (List.mem_of_getElem? (i := 3) rfl)
set_option maxRecDepth 20000 in
theorem gL_law_X9_write : GoodIn wsL_law (wsV RL 13 RX9 yX9_write wsX9_write) := goodIn_sub (List.forall_mem_append.mpr ⟨List.forall_mem_cons.mpr ⟨ml_121, List.forall_mem_cons.mpr ⟨ml_122, List.forall_mem_cons.mpr ⟨ml_123, List.forall_mem_cons.mpr ⟨ml_2, (fun _ h => absurd h List.not_mem_nil)⟩⟩⟩⟩, lp_wsX9_write⟩) (by decide +kernel)
set_option maxRecDepth 20000 in
theorem ml_178 : Cond.code yX10_write cX10_write 8 (some .int) ∈ wsL_law := inr_8 _ (List.mem_of_getElem? (i := 10) rfl)
set_option maxRecDepth 20000 in
theorem ml_199 : Cond.code yX10_takenBy cX10_takenBy 5 (some .int) ∈ wsL_law := inr_9 _ (List.mem_of_getElem? (i := 7) rfl)
set_option maxRecDepth 20000 in
theorem ml_198 : Cond.selects RX10 yX10_takenBy yX10_takenBy ∈ wsL_law := inr_9 _ (List.mem_of_getElem? (i := 6) rfl)
set_option maxRecDepth 20000 in
theorem ml_197 : Cond.instanceMethod yX10_takenBy ∈ wsL_law := inr_9 _ (List.mem_of_getElem? (i := 5) rfl)
set_option maxRecDepth 20000 in
theorem ml_196 : Cond.methodLink RX10 94 yX10_takenBy ∈ wsL_law := inr_9 _ (List.mem_of_getElem? (i := 4) rfl)
set_option maxRecDepth 20000 in
theorem ml_195 : Cond.code yX10_window cX10_window 2 (some .int) ∈ wsL_law := inr_9 _ (List.mem_of_getElem? (i := 3) rfl)
set_option maxRecDepth 20000 in
theorem ml_194 : Cond.static yX10_window ∈ wsL_law := inr_9 _ (List.mem_of_getElem? (i := 2) rfl)
set_option maxRecDepth 20000 in
theorem ml_193 : Cond.methodLink RX10 91 yX10_window ∈ wsL_law := inr_9 _ (List.mem_of_getElem? (i := 1) rfl)
set_option maxRecDepth 20000 in
theorem ml_192 : Cond.constant RX10 49 (-1000000000) ∈ wsL_law := inr_9 _ (List.mem_of_getElem? (i := 0) rfl)
set_option maxRecDepth 20000 in
theorem ml_191 : Cond.code yX10_error cX10_error 2 (some .int) ∈ wsL_law := inr_8 _ (List.mem_of_getElem? (i := 23) rfl)
set_option maxRecDepth 20000 in
theorem ml_190 : Cond.selects RX10 yX10_error yX10_error ∈ wsL_law := inr_8 _ (List.mem_of_getElem? (i := 22) rfl)
set_option maxRecDepth 20000 in
theorem ml_189 : Cond.instanceMethod yX10_error ∈ wsL_law := inr_8 _ (List.mem_of_getElem? (i := 21) rfl)
set_option maxRecDepth 20000 in
theorem ml_188 : Cond.methodLink RX10 87 yX10_error ∈ wsL_law := inr_8 _ (List.mem_of_getElem? (i := 20) rfl)
set_option maxRecDepth 20000 in
theorem ml_187 : Cond.code yX10_in cX10_in 3 (some .boolean) ∈ wsL_law := inr_8 _ (List.mem_of_getElem? (i := 19) rfl)
set_option maxRecDepth 20000 in
theorem ml_186 : Cond.static yX10_in ∈ wsL_law := inr_8 _ (List.mem_of_getElem? (i := 18) rfl)
set_option maxRecDepth 20000 in
theorem ml_185 : Cond.methodLink RX10 54 yX10_in ∈ wsL_law := inr_8 _ (List.mem_of_getElem? (i := 17) rfl)
set_option maxRecDepth 20000 in
theorem ml_184 : Cond.code yX10_isKm cX10_isKm 1 (some .boolean) ∈ wsL_law := inr_8 _ (List.mem_of_getElem? (i := 16) rfl)
set_option maxRecDepth 20000 in
theorem ml_5 : Cond.initialized RX10 ∈ wsL_law := inr_1 _ (List.mem_of_getElem? (i := 5) rfl)
set_option maxRecDepth 20000 in
theorem ml_183 : Cond.static yX10_isKm ∈ wsL_law := inr_8 _ (List.mem_of_getElem? (i := 15) rfl)
set_option maxRecDepth 20000 in
theorem ml_182 : Cond.methodLink RX10 82 yX10_isKm ∈ wsL_law := inr_8 _ (List.mem_of_getElem? (i := 14) rfl)
set_option maxRecDepth 20000 in
theorem ml_181 : Cond.constant RX10 97 (-1000000003) ∈ wsL_law := inr_8 _ (List.mem_of_getElem? (i := 13) rfl)
set_option maxRecDepth 20000 in
theorem ml_180 : Cond.constant RX10 90 (-1000000004) ∈ wsL_law := inr_8 _ (List.mem_of_getElem? (i := 12) rfl)
set_option maxRecDepth 20000 in
theorem ml_179 : Cond.constant RX10 86 (-1000000001) ∈ wsL_law := inr_8 _ (List.mem_of_getElem? (i := 11) rfl)
set_option maxRecDepth 20000 in
theorem lp_wsX10_write_r1 : ∀ w ∈ wsX10_write_r1, w ∈ wsL_law := (List.forall_mem_cons.mpr ⟨ml_179, (List.forall_mem_cons.mpr ⟨ml_108, (List.forall_mem_cons.mpr ⟨ml_180, (List.forall_mem_cons.mpr ⟨ml_181, (List.forall_mem_cons.mpr ⟨ml_182, (List.forall_mem_cons.mpr ⟨ml_183, (List.forall_mem_cons.mpr ⟨ml_5, (List.forall_mem_cons.mpr ⟨ml_184, (List.forall_mem_cons.mpr ⟨ml_185, (List.forall_mem_cons.mpr ⟨ml_186, (List.forall_mem_cons.mpr ⟨ml_187, (List.forall_mem_cons.mpr ⟨ml_188, (List.forall_mem_cons.mpr ⟨ml_189, (List.forall_mem_cons.mpr ⟨ml_190, (List.forall_mem_cons.mpr ⟨ml_191, (List.forall_mem_cons.mpr ⟨ml_111, (List.forall_mem_cons.mpr ⟨ml_192, (List.forall_mem_cons.mpr ⟨ml_193, (List.forall_mem_cons.mpr ⟨ml_194, (List.forall_mem_cons.mpr ⟨ml_195, (List.forall_mem_cons.mpr ⟨ml_196, (List.forall_mem_cons.mpr ⟨ml_197, (List.forall_mem_cons.mpr ⟨ml_198, (List.forall_mem_cons.mpr ⟨ml_199, (fun _ h => absurd h List.not_mem_nil)⟩)⟩)⟩)⟩)⟩)⟩)⟩)⟩)⟩)⟩)⟩)⟩)⟩)⟩)⟩)⟩)⟩)⟩)⟩)⟩)⟩)⟩)⟩)⟩)
set_option maxRecDepth 20000 in
theorem ml_211 : Cond.code yX10_lets cX10_lets 4 none ∈ wsL_law := inr_9 _ (List.mem_of_getElem? (i := 19) rfl)
set_option maxRecDepth 20000 in
theorem ml_210 : Cond.selects RX10 yX10_lets yX10_lets ∈ wsL_law := inr_9 _ (List.mem_of_getElem? (i := 18) rfl)
set_option maxRecDepth 20000 in
theorem ml_209 : Cond.instanceMethod yX10_lets ∈ wsL_law := inr_9 _ (List.mem_of_getElem? (i := 17) rfl)
set_option maxRecDepth 20000 in
theorem ml_208 : Cond.methodLink RX10 78 yX10_lets ∈ wsL_law := inr_9 _ (List.mem_of_getElem? (i := 16) rfl)
set_option maxRecDepth 20000 in
theorem ml_207 : Cond.code yX10_comes cX10_comes 5 (some .int) ∈ wsL_law := inr_9 _ (List.mem_of_getElem? (i := 15) rfl)
set_option maxRecDepth 20000 in
theorem ml_206 : Cond.selects RX10 yX10_comes yX10_comes ∈ wsL_law := inr_9 _ (List.mem_of_getElem? (i := 14) rfl)
set_option maxRecDepth 20000 in
theorem ml_205 : Cond.instanceMethod yX10_comes ∈ wsL_law := inr_9 _ (List.mem_of_getElem? (i := 13) rfl)
set_option maxRecDepth 20000 in
theorem ml_204 : Cond.methodLink RX10 98 yX10_comes ∈ wsL_law := inr_9 _ (List.mem_of_getElem? (i := 12) rfl)
set_option maxRecDepth 20000 in
theorem ml_203 : Cond.code yX10_it cX10_it 3 (some .int) ∈ wsL_law := inr_9 _ (List.mem_of_getElem? (i := 11) rfl)
set_option maxRecDepth 20000 in
theorem ml_202 : Cond.selects RX10 yX10_it yX10_it ∈ wsL_law := inr_9 _ (List.mem_of_getElem? (i := 10) rfl)
set_option maxRecDepth 20000 in
theorem ml_201 : Cond.instanceMethod yX10_it ∈ wsL_law := inr_9 _ (List.mem_of_getElem? (i := 9) rfl)
set_option maxRecDepth 20000 in
theorem ml_200 : Cond.methodLink RX10 58 yX10_it ∈ wsL_law := inr_9 _ (List.mem_of_getElem? (i := 8) rfl)
set_option maxRecDepth 20000 in
theorem lp_wsX10_write_r2 : ∀ w ∈ wsX10_write_r2, w ∈ wsL_law := (List.forall_mem_cons.mpr ⟨ml_200, (List.forall_mem_cons.mpr ⟨ml_201, (List.forall_mem_cons.mpr ⟨ml_202, (List.forall_mem_cons.mpr ⟨ml_203, (List.forall_mem_cons.mpr ⟨ml_204, (List.forall_mem_cons.mpr ⟨ml_205, (List.forall_mem_cons.mpr ⟨ml_206, (List.forall_mem_cons.mpr ⟨ml_207, (List.forall_mem_cons.mpr ⟨ml_208, (List.forall_mem_cons.mpr ⟨ml_209, (List.forall_mem_cons.mpr ⟨ml_210, (List.forall_mem_cons.mpr ⟨ml_211, (fun _ h => absurd h List.not_mem_nil)⟩)⟩)⟩)⟩)⟩)⟩)⟩)⟩)⟩)⟩)⟩)⟩)
set_option maxRecDepth 20000 in
theorem lp_wsX10_write : ∀ w ∈ wsX10_write, w ∈ wsL_law := (List.forall_mem_cons.mpr ⟨ml_178, (List.forall_mem_append.mpr ⟨(List.forall_mem_append.mpr ⟨lp_wsX10_write_r1, lp_wsX10_write_r2⟩), inlX10⟩)⟩)
set_option maxRecDepth 20000 in
theorem ml_175 : Cond.methodLink RL 17 yX10_write ∈ wsL_law := inr_8 _ (List.mem_of_getElem? (i := 7) rfl)
set_option maxRecDepth 20000 in
theorem ml_176 : Cond.instanceMethod yX10_write ∈ wsL_law := inr_8 _ (List.mem_of_getElem? (i := 8) rfl)
set_option maxRecDepth 20000 in
theorem ml_177 : Cond.selects RX10 yX10_write yX10_write ∈ wsL_law := inr_8 _ (List.mem_of_getElem? (i := 9) rfl)
set_option maxRecDepth 20000 in
theorem gL_law_X10_write : GoodIn wsL_law (wsV RL 17 RX10 yX10_write wsX10_write) := goodIn_sub (List.forall_mem_append.mpr ⟨List.forall_mem_cons.mpr ⟨ml_175, List.forall_mem_cons.mpr ⟨ml_176, List.forall_mem_cons.mpr ⟨ml_177, List.forall_mem_cons.mpr ⟨ml_5, (fun _ h => absurd h List.not_mem_nil)⟩⟩⟩⟩, lp_wsX10_write⟩) (by decide +kernel)
set_option maxRecDepth 20000 in
theorem ml_215 : Cond.code yX9_lineIs cX9_lineIs 4 (some .int) ∈ wsL_law := inr_9 _ (List.mem_of_getElem? (i := 23) rfl)
set_option maxRecDepth 20000 in
theorem ml_223 : Cond.code yX0_mayGo cX0_mayGo 3 (some .boolean) ∈ wsL_law := inr_10 _ (List.mem_of_getElem? (i := 7) rfl)
set_option maxRecDepth 20000 in
theorem ml_222 : Cond.selects RX0 yX0_mayGo yX0_mayGo ∈ wsL_law := inr_10 _ (List.mem_of_getElem? (i := 6) rfl)
set_option maxRecDepth 20000 in
theorem ml_221 : Cond.instanceMethod yX0_mayGo ∈ wsL_law := inr_10 _ (List.mem_of_getElem? (i := 5) rfl)
set_option maxRecDepth 20000 in
theorem ml_220 : Cond.methodLink RX9 123 yX0_mayGo ∈ wsL_law := inr_10 _ (List.mem_of_getElem? (i := 4) rfl)
set_option maxRecDepth 20000 in
theorem ml_219 : Cond.code yX0_hasLine cX0_hasLine 2 (some .boolean) ∈ wsL_law := inr_10 _ (List.mem_of_getElem? (i := 3) rfl)
set_option maxRecDepth 20000 in
theorem ml_218 : Cond.selects RX0 yX0_hasLine yX0_hasLine ∈ wsL_law := inr_10 _ (List.mem_of_getElem? (i := 2) rfl)
set_option maxRecDepth 20000 in
theorem ml_217 : Cond.instanceMethod yX0_hasLine ∈ wsL_law := inr_10 _ (List.mem_of_getElem? (i := 1) rfl)
set_option maxRecDepth 20000 in
theorem ml_216 : Cond.methodLink RX9 89 yX0_hasLine ∈ wsL_law := inr_10 _ (List.mem_of_getElem? (i := 0) rfl)
set_option maxRecDepth 20000 in
theorem lp_wsX9_lineIs_r1 : ∀ w ∈ wsX9_lineIs_r1, w ∈ wsL_law := (List.forall_mem_cons.mpr ⟨ml_16, (List.forall_mem_cons.mpr ⟨ml_216, (List.forall_mem_cons.mpr ⟨ml_217, (List.forall_mem_cons.mpr ⟨ml_218, (List.forall_mem_cons.mpr ⟨ml_15, (List.forall_mem_cons.mpr ⟨ml_219, (List.forall_mem_cons.mpr ⟨ml_147, (List.forall_mem_cons.mpr ⟨ml_131, (List.forall_mem_cons.mpr ⟨ml_132, (List.forall_mem_cons.mpr ⟨ml_133, (List.forall_mem_cons.mpr ⟨ml_2, (List.forall_mem_cons.mpr ⟨ml_134, (List.forall_mem_cons.mpr ⟨ml_37, (List.forall_mem_cons.mpr ⟨ml_135, (List.forall_mem_cons.mpr ⟨ml_220, (List.forall_mem_cons.mpr ⟨ml_221, (List.forall_mem_cons.mpr ⟨ml_222, (List.forall_mem_cons.mpr ⟨ml_223, (List.forall_mem_cons.mpr ⟨ml_45, (List.forall_mem_cons.mpr ⟨ml_149, (List.forall_mem_cons.mpr ⟨ml_150, (List.forall_mem_cons.mpr ⟨ml_151, (List.forall_mem_cons.mpr ⟨ml_152, (List.forall_mem_cons.mpr ⟨ml_58, (fun _ h => absurd h List.not_mem_nil)⟩)⟩)⟩)⟩)⟩)⟩)⟩)⟩)⟩)⟩)⟩)⟩)⟩)⟩)⟩)⟩)⟩)⟩)⟩)⟩)⟩)⟩)⟩)⟩)
set_option maxRecDepth 20000 in
theorem ml_232 : Cond.code Lib.Math.min.name Lib.Math.min.code 2 (some .int) ∈ wsL_law := inr_10 _ (List.mem_of_getElem? (i := 16) rfl)
set_option maxRecDepth 20000 in
theorem ml_231 : Cond.static Lib.Math.min.name ∈ wsL_law := inr_10 _ (List.mem_of_getElem? (i := 15) rfl)
set_option maxRecDepth 20000 in
theorem ml_230 : Cond.methodLink RX9 303 Lib.Math.min.name ∈ wsL_law := inr_10 _ (List.mem_of_getElem? (i := 14) rfl)
set_option maxRecDepth 20000 in
theorem ml_229 : Cond.code yX9_held cX9_held 2 (some .int) ∈ wsL_law := inr_10 _ (List.mem_of_getElem? (i := 13) rfl)
set_option maxRecDepth 20000 in
theorem ml_228 : Cond.static yX9_held ∈ wsL_law := inr_10 _ (List.mem_of_getElem? (i := 12) rfl)
set_option maxRecDepth 20000 in
theorem ml_227 : Cond.code yX2_back cX2_back 3 (some .int) ∈ wsL_law := inr_10 _ (List.mem_of_getElem? (i := 11) rfl)
set_option maxRecDepth 20000 in
theorem ml_226 : Cond.selects RX2 yX2_back yX2_back ∈ wsL_law := inr_10 _ (List.mem_of_getElem? (i := 10) rfl)
set_option maxRecDepth 20000 in
theorem ml_225 : Cond.instanceMethod yX2_back ∈ wsL_law := inr_10 _ (List.mem_of_getElem? (i := 9) rfl)
set_option maxRecDepth 20000 in
theorem ml_224 : Cond.methodLink RX9 127 yX2_back ∈ wsL_law := inr_10 _ (List.mem_of_getElem? (i := 8) rfl)
set_option maxRecDepth 20000 in
theorem lp_wsX9_lineIs_r2 : ∀ w ∈ wsX9_lineIs_r2, w ∈ wsL_law := (List.forall_mem_cons.mpr ⟨ml_153, (List.forall_mem_cons.mpr ⟨ml_154, (List.forall_mem_cons.mpr ⟨ml_155, (List.forall_mem_cons.mpr ⟨ml_156, (List.forall_mem_cons.mpr ⟨ml_157, (List.forall_mem_cons.mpr ⟨ml_64, (List.forall_mem_cons.mpr ⟨ml_65, (List.forall_mem_cons.mpr ⟨ml_66, (List.forall_mem_cons.mpr ⟨ml_158, (List.forall_mem_cons.mpr ⟨ml_159, (List.forall_mem_cons.mpr ⟨ml_160, (List.forall_mem_cons.mpr ⟨ml_161, (List.forall_mem_cons.mpr ⟨ml_162, (List.forall_mem_cons.mpr ⟨ml_163, (List.forall_mem_cons.mpr ⟨ml_224, (List.forall_mem_cons.mpr ⟨ml_225, (List.forall_mem_cons.mpr ⟨ml_226, (List.forall_mem_cons.mpr ⟨ml_227, (List.forall_mem_cons.mpr ⟨ml_174, (List.forall_mem_cons.mpr ⟨ml_228, (List.forall_mem_cons.mpr ⟨ml_229, (List.forall_mem_cons.mpr ⟨ml_230, (List.forall_mem_cons.mpr ⟨ml_231, (List.forall_mem_cons.mpr ⟨ml_232, (fun _ h => absurd h List.not_mem_nil)⟩)⟩)⟩)⟩)⟩)⟩)⟩)⟩)⟩)⟩)⟩)⟩)⟩)⟩)⟩)⟩)⟩)⟩)⟩)⟩)⟩)⟩)⟩)⟩)
set_option maxRecDepth 20000 in
theorem ml_251 : Cond.fieldLink RX6 19 "BoardKeep$Row" "many" "I" ∈ wsL_law := inr_11 _ (List.mem_of_getElem? (i := 11) rfl)
set_option maxRecDepth 20000 in
theorem ml_250 : Cond.code yX6_clear cX6_clear 1 none ∈ wsL_law := inr_11 _ (List.mem_of_getElem? (i := 10) rfl)
set_option maxRecDepth 20000 in
theorem ml_249 : Cond.selects RX6 yX6_clear yX6_clear ∈ wsL_law := inr_11 _ (List.mem_of_getElem? (i := 9) rfl)
set_option maxRecDepth 20000 in
theorem ml_248 : Cond.instanceMethod yX6_clear ∈ wsL_law := inr_11 _ (List.mem_of_getElem? (i := 8) rfl)
set_option maxRecDepth 20000 in
theorem ml_247 : Cond.methodLink RX1 29 yX6_clear ∈ wsL_law := inr_11 _ (List.mem_of_getElem? (i := 7) rfl)
set_option maxRecDepth 20000 in
theorem ml_246 : Cond.code yX1_workOut cX1_workOut 8 (some .int) ∈ wsL_law := inr_11 _ (List.mem_of_getElem? (i := 6) rfl)
set_option maxRecDepth 20000 in
theorem ml_245 : Cond.selects RX1 yX1_workOut yX1_workOut ∈ wsL_law := inr_11 _ (List.mem_of_getElem? (i := 5) rfl)
set_option maxRecDepth 20000 in
theorem ml_244 : Cond.instanceMethod yX1_workOut ∈ wsL_law := inr_11 _ (List.mem_of_getElem? (i := 4) rfl)
set_option maxRecDepth 20000 in
theorem ml_243 : Cond.methodLink RX0 120 yX1_workOut ∈ wsL_law := inr_11 _ (List.mem_of_getElem? (i := 3) rfl)
set_option maxRecDepth 20000 in
theorem ml_242 : Cond.code yX0_lawGives cX0_lawGives 6 (some .int) ∈ wsL_law := inr_11 _ (List.mem_of_getElem? (i := 2) rfl)
set_option maxRecDepth 20000 in
theorem ml_241 : Cond.selects RX0 yX0_lawGives yX0_lawGives ∈ wsL_law := inr_11 _ (List.mem_of_getElem? (i := 1) rfl)
set_option maxRecDepth 20000 in
theorem ml_240 : Cond.instanceMethod yX0_lawGives ∈ wsL_law := inr_11 _ (List.mem_of_getElem? (i := 0) rfl)
set_option maxRecDepth 20000 in
theorem ml_239 : Cond.methodLink RX0 91 yX0_lawGives ∈ wsL_law := inr_10 _ (List.mem_of_getElem? (i := 23) rfl)
set_option maxRecDepth 20000 in
theorem ml_238 : Cond.methodLink RX0 81 yX2_back ∈ wsL_law := inr_10 _ (List.mem_of_getElem? (i := 22) rfl)
set_option maxRecDepth 20000 in
theorem ml_237 : Cond.code yX0_lossOf cX0_lossOf 3 (some .int) ∈ wsL_law := inr_10 _ (List.mem_of_getElem? (i := 21) rfl)
set_option maxRecDepth 20000 in
theorem ml_236 : Cond.selects RX0 yX0_lossOf yX0_lossOf ∈ wsL_law := inr_10 _ (List.mem_of_getElem? (i := 20) rfl)
set_option maxRecDepth 20000 in
theorem ml_235 : Cond.instanceMethod yX0_lossOf ∈ wsL_law := inr_10 _ (List.mem_of_getElem? (i := 19) rfl)
set_option maxRecDepth 20000 in
theorem ml_234 : Cond.methodLink RX9 130 yX0_lossOf ∈ wsL_law := inr_10 _ (List.mem_of_getElem? (i := 18) rfl)
set_option maxRecDepth 20000 in
theorem ml_233 : Cond.methodLink RX9 308 Lib.Math.max.name ∈ wsL_law := inr_10 _ (List.mem_of_getElem? (i := 17) rfl)
set_option maxRecDepth 20000 in
theorem lp_wsX9_lineIs_r3 : ∀ w ∈ wsX9_lineIs_r3, w ∈ wsL_law := (List.forall_mem_cons.mpr ⟨ml_233, (List.forall_mem_cons.mpr ⟨ml_234, (List.forall_mem_cons.mpr ⟨ml_235, (List.forall_mem_cons.mpr ⟨ml_236, (List.forall_mem_cons.mpr ⟨ml_237, (List.forall_mem_cons.mpr ⟨ml_238, (List.forall_mem_cons.mpr ⟨ml_239, (List.forall_mem_cons.mpr ⟨ml_240, (List.forall_mem_cons.mpr ⟨ml_241, (List.forall_mem_cons.mpr ⟨ml_242, (List.forall_mem_cons.mpr ⟨ml_56, (List.forall_mem_cons.mpr ⟨ml_243, (List.forall_mem_cons.mpr ⟨ml_244, (List.forall_mem_cons.mpr ⟨ml_245, (List.forall_mem_cons.mpr ⟨ml_55, (List.forall_mem_cons.mpr ⟨ml_246, (List.forall_mem_cons.mpr ⟨ml_73, (List.forall_mem_cons.mpr ⟨ml_72, (List.forall_mem_cons.mpr ⟨ml_247, (List.forall_mem_cons.mpr ⟨ml_248, (List.forall_mem_cons.mpr ⟨ml_249, (List.forall_mem_cons.mpr ⟨ml_50, (List.forall_mem_cons.mpr ⟨ml_250, (List.forall_mem_cons.mpr ⟨ml_251, (fun _ h => absurd h List.not_mem_nil)⟩)⟩)⟩)⟩)⟩)⟩)⟩)⟩)⟩)⟩)⟩)⟩)⟩)⟩)⟩)⟩)⟩)⟩)⟩)⟩)⟩)⟩)⟩)⟩)
set_option maxRecDepth 20000 in
theorem ml_262 : Cond.code yX1_join cX1_join 3 (some .int) ∈ wsL_law := inr_11 _ (List.mem_of_getElem? (i := 22) rfl)
set_option maxRecDepth 20000 in
theorem ml_261 : Cond.static yX1_join ∈ wsL_law := inr_11 _ (List.mem_of_getElem? (i := 21) rfl)
set_option maxRecDepth 20000 in
theorem ml_260 : Cond.methodLink RX1 47 yX1_join ∈ wsL_law := inr_11 _ (List.mem_of_getElem? (i := 20) rfl)
set_option maxRecDepth 20000 in
theorem ml_259 : Cond.code yX1_pop cX1_pop 1 (some .int) ∈ wsL_law := inr_11 _ (List.mem_of_getElem? (i := 19) rfl)
set_option maxRecDepth 20000 in
theorem ml_258 : Cond.selects RX1 yX1_pop yX1_pop ∈ wsL_law := inr_11 _ (List.mem_of_getElem? (i := 18) rfl)
set_option maxRecDepth 20000 in
theorem ml_257 : Cond.instanceMethod yX1_pop ∈ wsL_law := inr_11 _ (List.mem_of_getElem? (i := 17) rfl)
set_option maxRecDepth 20000 in
theorem ml_256 : Cond.methodLink RX1 43 yX1_pop ∈ wsL_law := inr_11 _ (List.mem_of_getElem? (i := 16) rfl)
set_option maxRecDepth 20000 in
theorem ml_255 : Cond.code yX6_add cX6_add 2 none ∈ wsL_law := inr_11 _ (List.mem_of_getElem? (i := 15) rfl)
set_option maxRecDepth 20000 in
theorem ml_254 : Cond.selects RX6 yX6_add yX6_add ∈ wsL_law := inr_11 _ (List.mem_of_getElem? (i := 14) rfl)
set_option maxRecDepth 20000 in
theorem ml_253 : Cond.instanceMethod yX6_add ∈ wsL_law := inr_11 _ (List.mem_of_getElem? (i := 13) rfl)
set_option maxRecDepth 20000 in
theorem ml_252 : Cond.methodLink RX1 40 yX6_add ∈ wsL_law := inr_11 _ (List.mem_of_getElem? (i := 12) rfl)
set_option maxRecDepth 20000 in
theorem lp_wsX9_lineIs_r4 : ∀ w ∈ wsX9_lineIs_r4, w ∈ wsL_law := (List.forall_mem_cons.mpr ⟨ml_252, (List.forall_mem_cons.mpr ⟨ml_253, (List.forall_mem_cons.mpr ⟨ml_254, (List.forall_mem_cons.mpr ⟨ml_255, (List.forall_mem_cons.mpr ⟨ml_67, (List.forall_mem_cons.mpr ⟨ml_256, (List.forall_mem_cons.mpr ⟨ml_257, (List.forall_mem_cons.mpr ⟨ml_258, (List.forall_mem_cons.mpr ⟨ml_259, (List.forall_mem_cons.mpr ⟨ml_260, (List.forall_mem_cons.mpr ⟨ml_261, (List.forall_mem_cons.mpr ⟨ml_262, (fun _ h => absurd h List.not_mem_nil)⟩)⟩)⟩)⟩)⟩)⟩)⟩)⟩)⟩)⟩)⟩)⟩)
set_option maxRecDepth 20000 in
theorem lp_wsX9_lineIs : ∀ w ∈ wsX9_lineIs, w ∈ wsL_law := (List.forall_mem_cons.mpr ⟨ml_215, (List.forall_mem_append.mpr ⟨(List.forall_mem_append.mpr ⟨(List.forall_mem_append.mpr ⟨(List.forall_mem_append.mpr ⟨(List.forall_mem_append.mpr ⟨(List.forall_mem_append.mpr ⟨lp_wsX9_lineIs_r1, (List.forall_mem_append.mpr ⟨lp_wsX9_lineIs_r2, (List.forall_mem_append.mpr ⟨lp_wsX9_lineIs_r3, lp_wsX9_lineIs_r4⟩)⟩)⟩), inlX9⟩), inlX0⟩), inlX2⟩), inlX1⟩), inlX6⟩)⟩)
set_option maxRecDepth 20000 in
theorem ml_212 : Cond.methodLink RL 18 yX9_lineIs ∈ wsL_law := inr_9 _ (List.mem_of_getElem? (i := 20) rfl)
set_option maxRecDepth 20000 in
theorem ml_213 : Cond.instanceMethod yX9_lineIs ∈ wsL_law := inr_9 _ (List.mem_of_getElem? (i := 21) rfl)
set_option maxRecDepth 20000 in
theorem ml_214 : Cond.selects RX9 yX9_lineIs yX9_lineIs ∈ wsL_law := inr_9 _ (List.mem_of_getElem? (i := 22) rfl)
set_option maxRecDepth 20000 in
theorem gL_law_X9_lineIs : GoodIn wsL_law (wsV RL 18 RX9 yX9_lineIs wsX9_lineIs) := goodIn_sub (List.forall_mem_append.mpr ⟨List.forall_mem_cons.mpr ⟨ml_212, List.forall_mem_cons.mpr ⟨ml_213, List.forall_mem_cons.mpr ⟨ml_214, List.forall_mem_cons.mpr ⟨ml_2, (fun _ h => absurd h List.not_mem_nil)⟩⟩⟩⟩, lp_wsX9_lineIs⟩) (by decide +kernel)
set_option maxRecDepth 20000 in
theorem ml_266 : Cond.code yX10_lineIs cX10_lineIs 3 (some .int) ∈ wsL_law := inr_12 _ (List.mem_of_getElem? (i := 2) rfl)
set_option maxRecDepth 20000 in
theorem ml_274 : Cond.code yX10_mayGo cX10_mayGo 4 (some .boolean) ∈ wsL_law := inr_12 _ (List.mem_of_getElem? (i := 10) rfl)
set_option maxRecDepth 20000 in
theorem ml_273 : Cond.selects RX10 yX10_mayGo yX10_mayGo ∈ wsL_law := inr_12 _ (List.mem_of_getElem? (i := 9) rfl)
set_option maxRecDepth 20000 in
theorem ml_272 : Cond.instanceMethod yX10_mayGo ∈ wsL_law := inr_12 _ (List.mem_of_getElem? (i := 8) rfl)
set_option maxRecDepth 20000 in
theorem ml_271 : Cond.methodLink RX10 104 yX10_mayGo ∈ wsL_law := inr_12 _ (List.mem_of_getElem? (i := 7) rfl)
set_option maxRecDepth 20000 in
theorem ml_270 : Cond.code yX10_isLine cX10_isLine 2 (some .boolean) ∈ wsL_law := inr_12 _ (List.mem_of_getElem? (i := 6) rfl)
set_option maxRecDepth 20000 in
theorem ml_269 : Cond.selects RX10 yX10_isLine yX10_isLine ∈ wsL_law := inr_12 _ (List.mem_of_getElem? (i := 5) rfl)
set_option maxRecDepth 20000 in
theorem ml_268 : Cond.instanceMethod yX10_isLine ∈ wsL_law := inr_12 _ (List.mem_of_getElem? (i := 4) rfl)
set_option maxRecDepth 20000 in
theorem ml_267 : Cond.methodLink RX10 101 yX10_isLine ∈ wsL_law := inr_12 _ (List.mem_of_getElem? (i := 3) rfl)
set_option maxRecDepth 20000 in
theorem lp_wsX10_lineIs_r1 : ∀ w ∈ wsX10_lineIs_r1, w ∈ wsL_law := (List.forall_mem_cons.mpr ⟨ml_179, (List.forall_mem_cons.mpr ⟨ml_267, (List.forall_mem_cons.mpr ⟨ml_268, (List.forall_mem_cons.mpr ⟨ml_269, (List.forall_mem_cons.mpr ⟨ml_5, (List.forall_mem_cons.mpr ⟨ml_270, (List.forall_mem_cons.mpr ⟨ml_108, (List.forall_mem_cons.mpr ⟨ml_185, (List.forall_mem_cons.mpr ⟨ml_186, (List.forall_mem_cons.mpr ⟨ml_187, (List.forall_mem_cons.mpr ⟨ml_188, (List.forall_mem_cons.mpr ⟨ml_189, (List.forall_mem_cons.mpr ⟨ml_190, (List.forall_mem_cons.mpr ⟨ml_191, (List.forall_mem_cons.mpr ⟨ml_111, (List.forall_mem_cons.mpr ⟨ml_192, (List.forall_mem_cons.mpr ⟨ml_200, (List.forall_mem_cons.mpr ⟨ml_201, (List.forall_mem_cons.mpr ⟨ml_202, (List.forall_mem_cons.mpr ⟨ml_203, (List.forall_mem_cons.mpr ⟨ml_271, (List.forall_mem_cons.mpr ⟨ml_272, (List.forall_mem_cons.mpr ⟨ml_273, (List.forall_mem_cons.mpr ⟨ml_274, (fun _ h => absurd h List.not_mem_nil)⟩)⟩)⟩)⟩)⟩)⟩)⟩)⟩)⟩)⟩)⟩)⟩)⟩)⟩)⟩)⟩)⟩)⟩)⟩)⟩)⟩)⟩)⟩)⟩)
set_option maxRecDepth 20000 in
theorem ml_296 : Cond.code yX10_twoOf cX10_twoOf 3 (some .int) ∈ wsL_law := inr_13 _ (List.mem_of_getElem? (i := 8) rfl)
set_option maxRecDepth 20000 in
theorem ml_295 : Cond.static yX10_twoOf ∈ wsL_law := inr_13 _ (List.mem_of_getElem? (i := 7) rfl)
set_option maxRecDepth 20000 in
theorem ml_294 : Cond.methodLink RX10 169 yX10_twoOf ∈ wsL_law := inr_13 _ (List.mem_of_getElem? (i := 6) rfl)
set_option maxRecDepth 20000 in
theorem ml_293 : Cond.code yX10_works cX10_works 5 (some .int) ∈ wsL_law := inr_13 _ (List.mem_of_getElem? (i := 5) rfl)
set_option maxRecDepth 20000 in
theorem ml_292 : Cond.selects RX10 yX10_works yX10_works ∈ wsL_law := inr_13 _ (List.mem_of_getElem? (i := 4) rfl)
set_option maxRecDepth 20000 in
theorem ml_291 : Cond.instanceMethod yX10_works ∈ wsL_law := inr_13 _ (List.mem_of_getElem? (i := 3) rfl)
set_option maxRecDepth 20000 in
theorem ml_290 : Cond.methodLink RX10 172 yX10_works ∈ wsL_law := inr_13 _ (List.mem_of_getElem? (i := 2) rfl)
set_option maxRecDepth 20000 in
theorem ml_289 : Cond.code yX10_gives cX10_gives 7 (some .int) ∈ wsL_law := inr_13 _ (List.mem_of_getElem? (i := 1) rfl)
set_option maxRecDepth 20000 in
theorem ml_288 : Cond.selects RX10 yX10_gives yX10_gives ∈ wsL_law := inr_13 _ (List.mem_of_getElem? (i := 0) rfl)
set_option maxRecDepth 20000 in
theorem ml_287 : Cond.instanceMethod yX10_gives ∈ wsL_law := inr_12 _ (List.mem_of_getElem? (i := 23) rfl)
set_option maxRecDepth 20000 in
theorem ml_286 : Cond.methodLink RX10 70 yX10_gives ∈ wsL_law := inr_12 _ (List.mem_of_getElem? (i := 22) rfl)
set_option maxRecDepth 20000 in
theorem ml_285 : Cond.code yX10_lossOf cX10_lossOf 2 (some .int) ∈ wsL_law := inr_12 _ (List.mem_of_getElem? (i := 21) rfl)
set_option maxRecDepth 20000 in
theorem ml_284 : Cond.selects RX10 yX10_lossOf yX10_lossOf ∈ wsL_law := inr_12 _ (List.mem_of_getElem? (i := 20) rfl)
set_option maxRecDepth 20000 in
theorem ml_283 : Cond.instanceMethod yX10_lossOf ∈ wsL_law := inr_12 _ (List.mem_of_getElem? (i := 19) rfl)
set_option maxRecDepth 20000 in
theorem ml_282 : Cond.methodLink RX10 74 yX10_lossOf ∈ wsL_law := inr_12 _ (List.mem_of_getElem? (i := 18) rfl)
set_option maxRecDepth 20000 in
theorem ml_281 : Cond.code yX10_held cX10_held 3 (some .int) ∈ wsL_law := inr_12 _ (List.mem_of_getElem? (i := 17) rfl)
set_option maxRecDepth 20000 in
theorem ml_280 : Cond.static yX10_held ∈ wsL_law := inr_12 _ (List.mem_of_getElem? (i := 16) rfl)
set_option maxRecDepth 20000 in
theorem ml_279 : Cond.methodLink RX10 62 yX10_held ∈ wsL_law := inr_12 _ (List.mem_of_getElem? (i := 15) rfl)
set_option maxRecDepth 20000 in
theorem ml_278 : Cond.code yX10_backOf cX10_backOf 4 (some .int) ∈ wsL_law := inr_12 _ (List.mem_of_getElem? (i := 14) rfl)
set_option maxRecDepth 20000 in
theorem ml_277 : Cond.selects RX10 yX10_backOf yX10_backOf ∈ wsL_law := inr_12 _ (List.mem_of_getElem? (i := 13) rfl)
set_option maxRecDepth 20000 in
theorem ml_276 : Cond.instanceMethod yX10_backOf ∈ wsL_law := inr_12 _ (List.mem_of_getElem? (i := 12) rfl)
set_option maxRecDepth 20000 in
theorem ml_275 : Cond.methodLink RX10 66 yX10_backOf ∈ wsL_law := inr_12 _ (List.mem_of_getElem? (i := 11) rfl)
set_option maxRecDepth 20000 in
theorem lp_wsX10_lineIs_r2 : ∀ w ∈ wsX10_lineIs_r2, w ∈ wsL_law := (List.forall_mem_cons.mpr ⟨ml_275, (List.forall_mem_cons.mpr ⟨ml_276, (List.forall_mem_cons.mpr ⟨ml_277, (List.forall_mem_cons.mpr ⟨ml_278, (List.forall_mem_cons.mpr ⟨ml_279, (List.forall_mem_cons.mpr ⟨ml_280, (List.forall_mem_cons.mpr ⟨ml_281, (List.forall_mem_cons.mpr ⟨ml_282, (List.forall_mem_cons.mpr ⟨ml_283, (List.forall_mem_cons.mpr ⟨ml_284, (List.forall_mem_cons.mpr ⟨ml_285, (List.forall_mem_cons.mpr ⟨ml_286, (List.forall_mem_cons.mpr ⟨ml_287, (List.forall_mem_cons.mpr ⟨ml_288, (List.forall_mem_cons.mpr ⟨ml_289, (List.forall_mem_cons.mpr ⟨ml_117, (List.forall_mem_cons.mpr ⟨ml_290, (List.forall_mem_cons.mpr ⟨ml_291, (List.forall_mem_cons.mpr ⟨ml_292, (List.forall_mem_cons.mpr ⟨ml_293, (List.forall_mem_cons.mpr ⟨ml_118, (List.forall_mem_cons.mpr ⟨ml_294, (List.forall_mem_cons.mpr ⟨ml_295, (List.forall_mem_cons.mpr ⟨ml_296, (fun _ h => absurd h List.not_mem_nil)⟩)⟩)⟩)⟩)⟩)⟩)⟩)⟩)⟩)⟩)⟩)⟩)⟩)⟩)⟩)⟩)⟩)⟩)⟩)⟩)⟩)⟩)⟩)⟩)
set_option maxRecDepth 20000 in
theorem lp_wsX10_lineIs : ∀ w ∈ wsX10_lineIs, w ∈ wsL_law := (List.forall_mem_cons.mpr ⟨ml_266, (List.forall_mem_append.mpr ⟨(List.forall_mem_append.mpr ⟨lp_wsX10_lineIs_r1, lp_wsX10_lineIs_r2⟩), inlX10⟩)⟩)
set_option maxRecDepth 20000 in
theorem ml_263 : Cond.methodLink RL 22 yX10_lineIs ∈ wsL_law := inr_11 _ (List.mem_of_getElem? (i := 23) rfl)
set_option maxRecDepth 20000 in
theorem ml_264 : Cond.instanceMethod yX10_lineIs ∈ wsL_law := inr_12 _ (List.mem_of_getElem? (i := 0) rfl)
set_option maxRecDepth 20000 in
theorem ml_265 : Cond.selects RX10 yX10_lineIs yX10_lineIs ∈ wsL_law := inr_12 _ (List.mem_of_getElem? (i := 1) rfl)
set_option maxRecDepth 20000 in
theorem gL_law_X10_lineIs : GoodIn wsL_law (wsV RL 22 RX10 yX10_lineIs wsX10_lineIs) := goodIn_sub (List.forall_mem_append.mpr ⟨List.forall_mem_cons.mpr ⟨ml_263, List.forall_mem_cons.mpr ⟨ml_264, List.forall_mem_cons.mpr ⟨ml_265, List.forall_mem_cons.mpr ⟨ml_5, (fun _ h => absurd h List.not_mem_nil)⟩⟩⟩⟩, lp_wsX10_lineIs⟩) (by decide +kernel)
set_option maxRecDepth 20000 in
theorem ml_300 : Cond.code yX9_become cX9_become 5 (some .int) ∈ wsL_law := inr_13 _ (List.mem_of_getElem? (i := 12) rfl)
set_option maxRecDepth 20000 in
theorem lp_wsX9_become : ∀ w ∈ wsX9_become, w ∈ wsL_law := (List.forall_mem_cons.mpr ⟨ml_300, (List.forall_mem_append.mpr ⟨(List.forall_mem_append.mpr ⟨(List.forall_mem_append.mpr ⟨(List.forall_mem_cons.mpr ⟨ml_16, (List.forall_mem_cons.mpr ⟨ml_216, (List.forall_mem_cons.mpr ⟨ml_217, (List.forall_mem_cons.mpr ⟨ml_218, (List.forall_mem_cons.mpr ⟨ml_15, (List.forall_mem_cons.mpr ⟨ml_219, (List.forall_mem_cons.mpr ⟨ml_147, (List.forall_mem_cons.mpr ⟨ml_125, (List.forall_mem_cons.mpr ⟨ml_126, (List.forall_mem_cons.mpr ⟨ml_2, (List.forall_mem_cons.mpr ⟨ml_127, (List.forall_mem_cons.mpr ⟨ml_128, (List.forall_mem_cons.mpr ⟨ml_129, (List.forall_mem_cons.mpr ⟨ml_130, (List.forall_mem_cons.mpr ⟨ml_131, (List.forall_mem_cons.mpr ⟨ml_132, (List.forall_mem_cons.mpr ⟨ml_133, (List.forall_mem_cons.mpr ⟨ml_134, (List.forall_mem_cons.mpr ⟨ml_37, (List.forall_mem_cons.mpr ⟨ml_135, (fun _ h => absurd h List.not_mem_nil)⟩)⟩)⟩)⟩)⟩)⟩)⟩)⟩)⟩)⟩)⟩)⟩)⟩)⟩)⟩)⟩)⟩)⟩)⟩)⟩), inlX9⟩), inlX0⟩), inlX2⟩)⟩)
set_option maxRecDepth 20000 in
theorem ml_297 : Cond.methodLink RL 23 yX9_become ∈ wsL_law := inr_13 _ (List.mem_of_getElem? (i := 9) rfl)
set_option maxRecDepth 20000 in
theorem ml_298 : Cond.instanceMethod yX9_become ∈ wsL_law := inr_13 _ (List.mem_of_getElem? (i := 10) rfl)
set_option maxRecDepth 20000 in
theorem ml_299 : Cond.selects RX9 yX9_become yX9_become ∈ wsL_law := inr_13 _ (List.mem_of_getElem? (i := 11) rfl)
set_option maxRecDepth 20000 in
theorem gL_law_X9_become : GoodIn wsL_law (wsV RL 23 RX9 yX9_become wsX9_become) := goodIn_sub (List.forall_mem_append.mpr ⟨List.forall_mem_cons.mpr ⟨ml_297, List.forall_mem_cons.mpr ⟨ml_298, List.forall_mem_cons.mpr ⟨ml_299, List.forall_mem_cons.mpr ⟨ml_2, (fun _ h => absurd h List.not_mem_nil)⟩⟩⟩⟩, lp_wsX9_become⟩) (by decide +kernel)
set_option maxRecDepth 20000 in
theorem ml_304 : Cond.code yX10_become cX10_become 3 (some .int) ∈ wsL_law := inr_13 _ (List.mem_of_getElem? (i := 16) rfl)
set_option maxRecDepth 20000 in
theorem ml_305 : Cond.methodLink RX10 107 yX10_becomes ∈ wsL_law := inr_13 _ (List.mem_of_getElem? (i := 17) rfl)
set_option maxRecDepth 20000 in
theorem lp_wsX10_become_r1 : ∀ w ∈ wsX10_become_r1, w ∈ wsL_law := (List.forall_mem_cons.mpr ⟨ml_179, (List.forall_mem_cons.mpr ⟨ml_267, (List.forall_mem_cons.mpr ⟨ml_268, (List.forall_mem_cons.mpr ⟨ml_269, (List.forall_mem_cons.mpr ⟨ml_5, (List.forall_mem_cons.mpr ⟨ml_270, (List.forall_mem_cons.mpr ⟨ml_108, (List.forall_mem_cons.mpr ⟨ml_185, (List.forall_mem_cons.mpr ⟨ml_186, (List.forall_mem_cons.mpr ⟨ml_187, (List.forall_mem_cons.mpr ⟨ml_182, (List.forall_mem_cons.mpr ⟨ml_183, (List.forall_mem_cons.mpr ⟨ml_184, (List.forall_mem_cons.mpr ⟨ml_188, (List.forall_mem_cons.mpr ⟨ml_189, (List.forall_mem_cons.mpr ⟨ml_190, (List.forall_mem_cons.mpr ⟨ml_191, (List.forall_mem_cons.mpr ⟨ml_111, (List.forall_mem_cons.mpr ⟨ml_192, (List.forall_mem_cons.mpr ⟨ml_208, (List.forall_mem_cons.mpr ⟨ml_209, (List.forall_mem_cons.mpr ⟨ml_210, (List.forall_mem_cons.mpr ⟨ml_211, (List.forall_mem_cons.mpr ⟨ml_305, (fun _ h => absurd h List.not_mem_nil)⟩)⟩)⟩)⟩)⟩)⟩)⟩)⟩)⟩)⟩)⟩)⟩)⟩)⟩)⟩)⟩)⟩)⟩)⟩)⟩)⟩)⟩)⟩)⟩)
set_option maxRecDepth 20000 in
theorem ml_308 : Cond.code yX10_becomes cX10_becomes 4 (some .int) ∈ wsL_law := inr_13 _ (List.mem_of_getElem? (i := 20) rfl)
set_option maxRecDepth 20000 in
theorem ml_307 : Cond.selects RX10 yX10_becomes yX10_becomes ∈ wsL_law := inr_13 _ (List.mem_of_getElem? (i := 19) rfl)
set_option maxRecDepth 20000 in
theorem ml_306 : Cond.instanceMethod yX10_becomes ∈ wsL_law := inr_13 _ (List.mem_of_getElem? (i := 18) rfl)
set_option maxRecDepth 20000 in
theorem lp_wsX10_become_r2 : ∀ w ∈ wsX10_become_r2, w ∈ wsL_law := (List.forall_mem_cons.mpr ⟨ml_306, (List.forall_mem_cons.mpr ⟨ml_307, (List.forall_mem_cons.mpr ⟨ml_308, (fun _ h => absurd h List.not_mem_nil)⟩)⟩)⟩)
set_option maxRecDepth 20000 in
theorem lp_wsX10_become : ∀ w ∈ wsX10_become, w ∈ wsL_law := (List.forall_mem_cons.mpr ⟨ml_304, (List.forall_mem_append.mpr ⟨(List.forall_mem_append.mpr ⟨lp_wsX10_become_r1, lp_wsX10_become_r2⟩), inlX10⟩)⟩)
set_option maxRecDepth 20000 in
theorem ml_301 : Cond.methodLink RL 26 yX10_become ∈ wsL_law := inr_13 _ (List.mem_of_getElem? (i := 13) rfl)
set_option maxRecDepth 20000 in
theorem ml_302 : Cond.instanceMethod yX10_become ∈ wsL_law := inr_13 _ (List.mem_of_getElem? (i := 14) rfl)
set_option maxRecDepth 20000 in
theorem ml_303 : Cond.selects RX10 yX10_become yX10_become ∈ wsL_law := inr_13 _ (List.mem_of_getElem? (i := 15) rfl)
set_option maxRecDepth 20000 in
theorem gL_law_X10_become : GoodIn wsL_law (wsV RL 26 RX10 yX10_become wsX10_become) := goodIn_sub (List.forall_mem_append.mpr ⟨List.forall_mem_cons.mpr ⟨ml_301, List.forall_mem_cons.mpr ⟨ml_302, List.forall_mem_cons.mpr ⟨ml_303, List.forall_mem_cons.mpr ⟨ml_5, (fun _ h => absurd h List.not_mem_nil)⟩⟩⟩⟩, lp_wsX10_become⟩) (by decide +kernel)
set_option maxRecDepth 20000 in
theorem ml_312 : Cond.code yX9_as cX9_as 4 (some .int) ∈ wsL_law := inr_14 _ (List.mem_of_getElem? (i := 0) rfl)
set_option maxRecDepth 20000 in
theorem ml_316 : Cond.fieldLink RX9 300 "BoardKeep" "KIND_ABOVE" "[I" ∈ wsL_law := inr_14 _ (List.mem_of_getElem? (i := 4) rfl)
set_option maxRecDepth 20000 in
theorem ml_315 : Cond.code yX9_isUnder cX9_isUnder 4 (some .boolean) ∈ wsL_law := inr_14 _ (List.mem_of_getElem? (i := 3) rfl)
set_option maxRecDepth 20000 in
theorem ml_314 : Cond.static yX9_isUnder ∈ wsL_law := inr_14 _ (List.mem_of_getElem? (i := 2) rfl)
set_option maxRecDepth 20000 in
theorem ml_313 : Cond.methodLink RX9 133 yX9_isUnder ∈ wsL_law := inr_14 _ (List.mem_of_getElem? (i := 1) rfl)
set_option maxRecDepth 20000 in
theorem lp_wsX9_as : ∀ w ∈ wsX9_as, w ∈ wsL_law := (List.forall_mem_cons.mpr ⟨ml_312, (List.forall_mem_append.mpr ⟨(List.forall_mem_append.mpr ⟨(List.forall_mem_append.mpr ⟨(List.forall_mem_cons.mpr ⟨ml_16, (List.forall_mem_cons.mpr ⟨ml_216, (List.forall_mem_cons.mpr ⟨ml_217, (List.forall_mem_cons.mpr ⟨ml_218, (List.forall_mem_cons.mpr ⟨ml_15, (List.forall_mem_cons.mpr ⟨ml_219, (List.forall_mem_cons.mpr ⟨ml_147, (List.forall_mem_cons.mpr ⟨ml_128, (List.forall_mem_cons.mpr ⟨ml_129, (List.forall_mem_cons.mpr ⟨ml_2, (List.forall_mem_cons.mpr ⟨ml_130, (List.forall_mem_cons.mpr ⟨ml_131, (List.forall_mem_cons.mpr ⟨ml_132, (List.forall_mem_cons.mpr ⟨ml_133, (List.forall_mem_cons.mpr ⟨ml_134, (List.forall_mem_cons.mpr ⟨ml_37, (List.forall_mem_cons.mpr ⟨ml_135, (List.forall_mem_cons.mpr ⟨ml_313, (List.forall_mem_cons.mpr ⟨ml_314, (List.forall_mem_cons.mpr ⟨ml_315, (List.forall_mem_cons.mpr ⟨ml_316, (fun _ h => absurd h List.not_mem_nil)⟩)⟩)⟩)⟩)⟩)⟩)⟩)⟩)⟩)⟩)⟩)⟩)⟩)⟩)⟩)⟩)⟩)⟩)⟩)⟩)⟩), inlX9⟩), inlX0⟩), inlX2⟩)⟩)
set_option maxRecDepth 20000 in
theorem ml_309 : Cond.methodLink RL 27 yX9_as ∈ wsL_law := inr_13 _ (List.mem_of_getElem? (i := 21) rfl)
set_option maxRecDepth 20000 in
theorem ml_310 : Cond.instanceMethod yX9_as ∈ wsL_law := inr_13 _ (List.mem_of_getElem? (i := 22) rfl)
set_option maxRecDepth 20000 in
theorem ml_311 : Cond.selects RX9 yX9_as yX9_as ∈ wsL_law := inr_13 _ (List.mem_of_getElem? (i := 23) rfl)
set_option maxRecDepth 20000 in
theorem gL_law_X9_as : GoodIn wsL_law (wsV RL 27 RX9 yX9_as wsX9_as) := goodIn_sub (List.forall_mem_append.mpr ⟨List.forall_mem_cons.mpr ⟨ml_309, List.forall_mem_cons.mpr ⟨ml_310, List.forall_mem_cons.mpr ⟨ml_311, List.forall_mem_cons.mpr ⟨ml_2, (fun _ h => absurd h List.not_mem_nil)⟩⟩⟩⟩, lp_wsX9_as⟩) (by decide +kernel)
set_option maxRecDepth 20000 in
theorem ml_320 : Cond.code yX10_as cX10_as 5 (some .int) ∈ wsL_law := inr_14 _ (List.mem_of_getElem? (i := 8) rfl)
set_option maxRecDepth 20000 in
theorem ml_321 : Cond.constant RX10 110 (-1000000005) ∈ wsL_law := inr_14 _ (List.mem_of_getElem? (i := 9) rfl)
set_option maxRecDepth 20000 in
theorem lp_wsX10_as : ∀ w ∈ wsX10_as, w ∈ wsL_law := (List.forall_mem_cons.mpr ⟨ml_320, (List.forall_mem_append.mpr ⟨(List.forall_mem_cons.mpr ⟨ml_179, (List.forall_mem_cons.mpr ⟨ml_321, (List.forall_mem_cons.mpr ⟨ml_267, (List.forall_mem_cons.mpr ⟨ml_268, (List.forall_mem_cons.mpr ⟨ml_269, (List.forall_mem_cons.mpr ⟨ml_5, (List.forall_mem_cons.mpr ⟨ml_270, (List.forall_mem_cons.mpr ⟨ml_108, (List.forall_mem_cons.mpr ⟨ml_185, (List.forall_mem_cons.mpr ⟨ml_186, (List.forall_mem_cons.mpr ⟨ml_187, (List.forall_mem_cons.mpr ⟨ml_188, (List.forall_mem_cons.mpr ⟨ml_189, (List.forall_mem_cons.mpr ⟨ml_190, (List.forall_mem_cons.mpr ⟨ml_191, (List.forall_mem_cons.mpr ⟨ml_111, (List.forall_mem_cons.mpr ⟨ml_192, (List.forall_mem_cons.mpr ⟨ml_200, (List.forall_mem_cons.mpr ⟨ml_201, (List.forall_mem_cons.mpr ⟨ml_202, (List.forall_mem_cons.mpr ⟨ml_203, (fun _ h => absurd h List.not_mem_nil)⟩)⟩)⟩)⟩)⟩)⟩)⟩)⟩)⟩)⟩)⟩)⟩)⟩)⟩)⟩)⟩)⟩)⟩)⟩)⟩)⟩), inlX10⟩)⟩)
set_option maxRecDepth 20000 in
theorem ml_317 : Cond.methodLink RL 30 yX10_as ∈ wsL_law := inr_14 _ (List.mem_of_getElem? (i := 5) rfl)
set_option maxRecDepth 20000 in
theorem ml_318 : Cond.instanceMethod yX10_as ∈ wsL_law := inr_14 _ (List.mem_of_getElem? (i := 6) rfl)
set_option maxRecDepth 20000 in
theorem ml_319 : Cond.selects RX10 yX10_as yX10_as ∈ wsL_law := inr_14 _ (List.mem_of_getElem? (i := 7) rfl)
set_option maxRecDepth 20000 in
theorem gL_law_X10_as : GoodIn wsL_law (wsV RL 30 RX10 yX10_as wsX10_as) := goodIn_sub (List.forall_mem_append.mpr ⟨List.forall_mem_cons.mpr ⟨ml_317, List.forall_mem_cons.mpr ⟨ml_318, List.forall_mem_cons.mpr ⟨ml_319, List.forall_mem_cons.mpr ⟨ml_5, (fun _ h => absurd h List.not_mem_nil)⟩⟩⟩⟩, lp_wsX10_as⟩) (by decide +kernel)
set_option maxRecDepth 20000 in
theorem ml_325 : Cond.code yX9_photo cX9_photo 4 (some .int) ∈ wsL_law := inr_14 _ (List.mem_of_getElem? (i := 13) rfl)
set_option maxRecDepth 20000 in
theorem lp_wsX9_photo : ∀ w ∈ wsX9_photo, w ∈ wsL_law := (List.forall_mem_cons.mpr ⟨ml_325, (List.forall_mem_append.mpr ⟨(List.forall_mem_append.mpr ⟨(List.forall_mem_append.mpr ⟨(List.forall_mem_cons.mpr ⟨ml_16, (List.forall_mem_cons.mpr ⟨ml_216, (List.forall_mem_cons.mpr ⟨ml_217, (List.forall_mem_cons.mpr ⟨ml_218, (List.forall_mem_cons.mpr ⟨ml_15, (List.forall_mem_cons.mpr ⟨ml_219, (List.forall_mem_cons.mpr ⟨ml_147, (List.forall_mem_cons.mpr ⟨ml_128, (List.forall_mem_cons.mpr ⟨ml_129, (List.forall_mem_cons.mpr ⟨ml_2, (List.forall_mem_cons.mpr ⟨ml_130, (List.forall_mem_cons.mpr ⟨ml_131, (List.forall_mem_cons.mpr ⟨ml_132, (List.forall_mem_cons.mpr ⟨ml_133, (List.forall_mem_cons.mpr ⟨ml_134, (List.forall_mem_cons.mpr ⟨ml_37, (List.forall_mem_cons.mpr ⟨ml_135, (fun _ h => absurd h List.not_mem_nil)⟩)⟩)⟩)⟩)⟩)⟩)⟩)⟩)⟩)⟩)⟩)⟩)⟩)⟩)⟩)⟩)⟩), inlX9⟩), inlX0⟩), inlX2⟩)⟩)
set_option maxRecDepth 20000 in
theorem ml_322 : Cond.methodLink RL 31 yX9_photo ∈ wsL_law := inr_14 _ (List.mem_of_getElem? (i := 10) rfl)
set_option maxRecDepth 20000 in
theorem ml_323 : Cond.instanceMethod yX9_photo ∈ wsL_law := inr_14 _ (List.mem_of_getElem? (i := 11) rfl)
set_option maxRecDepth 20000 in
theorem ml_324 : Cond.selects RX9 yX9_photo yX9_photo ∈ wsL_law := inr_14 _ (List.mem_of_getElem? (i := 12) rfl)
set_option maxRecDepth 20000 in
theorem gL_law_X9_photo : GoodIn wsL_law (wsV RL 31 RX9 yX9_photo wsX9_photo) := goodIn_sub (List.forall_mem_append.mpr ⟨List.forall_mem_cons.mpr ⟨ml_322, List.forall_mem_cons.mpr ⟨ml_323, List.forall_mem_cons.mpr ⟨ml_324, List.forall_mem_cons.mpr ⟨ml_2, (fun _ h => absurd h List.not_mem_nil)⟩⟩⟩⟩, lp_wsX9_photo⟩) (by decide +kernel)
set_option maxRecDepth 20000 in
theorem ml_329 : Cond.code yX10_photo cX10_photo 3 (some .int) ∈ wsL_law := inr_14 _ (List.mem_of_getElem? (i := 17) rfl)
set_option maxRecDepth 20000 in
theorem lp_wsX10_photo : ∀ w ∈ wsX10_photo, w ∈ wsL_law := (List.forall_mem_cons.mpr ⟨ml_329, (List.forall_mem_append.mpr ⟨(List.forall_mem_cons.mpr ⟨ml_179, (List.forall_mem_cons.mpr ⟨ml_267, (List.forall_mem_cons.mpr ⟨ml_268, (List.forall_mem_cons.mpr ⟨ml_269, (List.forall_mem_cons.mpr ⟨ml_5, (List.forall_mem_cons.mpr ⟨ml_270, (List.forall_mem_cons.mpr ⟨ml_108, (List.forall_mem_cons.mpr ⟨ml_185, (List.forall_mem_cons.mpr ⟨ml_186, (List.forall_mem_cons.mpr ⟨ml_187, (List.forall_mem_cons.mpr ⟨ml_305, (List.forall_mem_cons.mpr ⟨ml_306, (List.forall_mem_cons.mpr ⟨ml_307, (List.forall_mem_cons.mpr ⟨ml_308, (List.forall_mem_cons.mpr ⟨ml_188, (List.forall_mem_cons.mpr ⟨ml_189, (List.forall_mem_cons.mpr ⟨ml_190, (List.forall_mem_cons.mpr ⟨ml_191, (List.forall_mem_cons.mpr ⟨ml_111, (List.forall_mem_cons.mpr ⟨ml_192, (fun _ h => absurd h List.not_mem_nil)⟩)⟩)⟩)⟩)⟩)⟩)⟩)⟩)⟩)⟩)⟩)⟩)⟩)⟩)⟩)⟩)⟩)⟩)⟩)⟩), inlX10⟩)⟩)
set_option maxRecDepth 20000 in
theorem ml_326 : Cond.methodLink RL 34 yX10_photo ∈ wsL_law := inr_14 _ (List.mem_of_getElem? (i := 14) rfl)
set_option maxRecDepth 20000 in
theorem ml_327 : Cond.instanceMethod yX10_photo ∈ wsL_law := inr_14 _ (List.mem_of_getElem? (i := 15) rfl)
set_option maxRecDepth 20000 in
theorem ml_328 : Cond.selects RX10 yX10_photo yX10_photo ∈ wsL_law := inr_14 _ (List.mem_of_getElem? (i := 16) rfl)
set_option maxRecDepth 20000 in
theorem gL_law_X10_photo : GoodIn wsL_law (wsV RL 34 RX10 yX10_photo wsX10_photo) := goodIn_sub (List.forall_mem_append.mpr ⟨List.forall_mem_cons.mpr ⟨ml_326, List.forall_mem_cons.mpr ⟨ml_327, List.forall_mem_cons.mpr ⟨ml_328, List.forall_mem_cons.mpr ⟨ml_5, (fun _ h => absurd h List.not_mem_nil)⟩⟩⟩⟩, lp_wsX10_photo⟩) (by decide +kernel)
set_option maxRecDepth 20000 in
theorem ml_333 : Cond.code yX9_wipe cX9_wipe 2 (some .int) ∈ wsL_law := inr_14 _ (List.mem_of_getElem? (i := 21) rfl)
set_option maxRecDepth 20000 in
theorem lp_wsX9_wipe_r1 : ∀ w ∈ wsX9_wipe_r1, w ∈ wsL_law := (List.forall_mem_cons.mpr ⟨ml_16, (List.forall_mem_cons.mpr ⟨ml_216, (List.forall_mem_cons.mpr ⟨ml_217, (List.forall_mem_cons.mpr ⟨ml_218, (List.forall_mem_cons.mpr ⟨ml_15, (List.forall_mem_cons.mpr ⟨ml_219, (List.forall_mem_cons.mpr ⟨ml_147, (List.forall_mem_cons.mpr ⟨ml_131, (List.forall_mem_cons.mpr ⟨ml_132, (List.forall_mem_cons.mpr ⟨ml_133, (List.forall_mem_cons.mpr ⟨ml_2, (List.forall_mem_cons.mpr ⟨ml_134, (List.forall_mem_cons.mpr ⟨ml_37, (List.forall_mem_cons.mpr ⟨ml_135, (List.forall_mem_cons.mpr ⟨ml_220, (List.forall_mem_cons.mpr ⟨ml_221, (List.forall_mem_cons.mpr ⟨ml_222, (List.forall_mem_cons.mpr ⟨ml_223, (List.forall_mem_cons.mpr ⟨ml_45, (List.forall_mem_cons.mpr ⟨ml_149, (List.forall_mem_cons.mpr ⟨ml_150, (List.forall_mem_cons.mpr ⟨ml_151, (List.forall_mem_cons.mpr ⟨ml_152, (List.forall_mem_cons.mpr ⟨ml_58, (fun _ h => absurd h List.not_mem_nil)⟩)⟩)⟩)⟩)⟩)⟩)⟩)⟩)⟩)⟩)⟩)⟩)⟩)⟩)⟩)⟩)⟩)⟩)⟩)⟩)⟩)⟩)⟩)⟩)
set_option maxRecDepth 20000 in
theorem ml_340 : Cond.methodLink RX0 103 Lib.Math.min.name ∈ wsL_law := inr_15 _ (List.mem_of_getElem? (i := 4) rfl)
set_option maxRecDepth 20000 in
theorem ml_339 : Cond.fieldLink RX0 58 "BoardKeep$Board" "lost" "I" ∈ wsL_law := inr_15 _ (List.mem_of_getElem? (i := 3) rfl)
set_option maxRecDepth 20000 in
theorem ml_338 : Cond.constant RX0 102 (99999) ∈ wsL_law := inr_15 _ (List.mem_of_getElem? (i := 2) rfl)
set_option maxRecDepth 20000 in
theorem ml_337 : Cond.code yX0_wipeLine cX0_wipeLine 3 (some .int) ∈ wsL_law := inr_15 _ (List.mem_of_getElem? (i := 1) rfl)
set_option maxRecDepth 20000 in
theorem ml_336 : Cond.selects RX0 yX0_wipeLine yX0_wipeLine ∈ wsL_law := inr_15 _ (List.mem_of_getElem? (i := 0) rfl)
set_option maxRecDepth 20000 in
theorem ml_335 : Cond.instanceMethod yX0_wipeLine ∈ wsL_law := inr_14 _ (List.mem_of_getElem? (i := 23) rfl)
set_option maxRecDepth 20000 in
theorem ml_334 : Cond.methodLink RX9 136 yX0_wipeLine ∈ wsL_law := inr_14 _ (List.mem_of_getElem? (i := 22) rfl)
set_option maxRecDepth 20000 in
theorem lp_wsX9_wipe_r2 : ∀ w ∈ wsX9_wipe_r2, w ∈ wsL_law := (List.forall_mem_cons.mpr ⟨ml_153, (List.forall_mem_cons.mpr ⟨ml_154, (List.forall_mem_cons.mpr ⟨ml_155, (List.forall_mem_cons.mpr ⟨ml_156, (List.forall_mem_cons.mpr ⟨ml_157, (List.forall_mem_cons.mpr ⟨ml_64, (List.forall_mem_cons.mpr ⟨ml_65, (List.forall_mem_cons.mpr ⟨ml_66, (List.forall_mem_cons.mpr ⟨ml_158, (List.forall_mem_cons.mpr ⟨ml_159, (List.forall_mem_cons.mpr ⟨ml_160, (List.forall_mem_cons.mpr ⟨ml_161, (List.forall_mem_cons.mpr ⟨ml_162, (List.forall_mem_cons.mpr ⟨ml_163, (List.forall_mem_cons.mpr ⟨ml_334, (List.forall_mem_cons.mpr ⟨ml_335, (List.forall_mem_cons.mpr ⟨ml_336, (List.forall_mem_cons.mpr ⟨ml_337, (List.forall_mem_cons.mpr ⟨ml_148, (List.forall_mem_cons.mpr ⟨ml_338, (List.forall_mem_cons.mpr ⟨ml_339, (List.forall_mem_cons.mpr ⟨ml_340, (List.forall_mem_cons.mpr ⟨ml_231, (List.forall_mem_cons.mpr ⟨ml_232, (fun _ h => absurd h List.not_mem_nil)⟩)⟩)⟩)⟩)⟩)⟩)⟩)⟩)⟩)⟩)⟩)⟩)⟩)⟩)⟩)⟩)⟩)⟩)⟩)⟩)⟩)⟩)⟩)⟩)
set_option maxRecDepth 20000 in
theorem ml_341 : Cond.methodLink RX0 95 yX0_lossOf ∈ wsL_law := inr_15 _ (List.mem_of_getElem? (i := 5) rfl)
set_option maxRecDepth 20000 in
theorem lp_wsX9_wipe_r3 : ∀ w ∈ wsX9_wipe_r3, w ∈ wsL_law := (List.forall_mem_cons.mpr ⟨ml_341, (List.forall_mem_cons.mpr ⟨ml_235, (List.forall_mem_cons.mpr ⟨ml_236, (List.forall_mem_cons.mpr ⟨ml_237, (List.forall_mem_cons.mpr ⟨ml_238, (List.forall_mem_cons.mpr ⟨ml_225, (List.forall_mem_cons.mpr ⟨ml_226, (List.forall_mem_cons.mpr ⟨ml_227, (List.forall_mem_cons.mpr ⟨ml_174, (List.forall_mem_cons.mpr ⟨ml_228, (List.forall_mem_cons.mpr ⟨ml_229, (List.forall_mem_cons.mpr ⟨ml_230, (List.forall_mem_cons.mpr ⟨ml_233, (List.forall_mem_cons.mpr ⟨ml_239, (List.forall_mem_cons.mpr ⟨ml_240, (List.forall_mem_cons.mpr ⟨ml_241, (List.forall_mem_cons.mpr ⟨ml_242, (List.forall_mem_cons.mpr ⟨ml_56, (List.forall_mem_cons.mpr ⟨ml_243, (List.forall_mem_cons.mpr ⟨ml_244, (List.forall_mem_cons.mpr ⟨ml_245, (List.forall_mem_cons.mpr ⟨ml_55, (List.forall_mem_cons.mpr ⟨ml_246, (List.forall_mem_cons.mpr ⟨ml_73, (fun _ h => absurd h List.not_mem_nil)⟩)⟩)⟩)⟩)⟩)⟩)⟩)⟩)⟩)⟩)⟩)⟩)⟩)⟩)⟩)⟩)⟩)⟩)⟩)⟩)⟩)⟩)⟩)⟩)
set_option maxRecDepth 20000 in
theorem lp_wsX9_wipe_r4 : ∀ w ∈ wsX9_wipe_r4, w ∈ wsL_law := (List.forall_mem_cons.mpr ⟨ml_72, (List.forall_mem_cons.mpr ⟨ml_247, (List.forall_mem_cons.mpr ⟨ml_248, (List.forall_mem_cons.mpr ⟨ml_249, (List.forall_mem_cons.mpr ⟨ml_50, (List.forall_mem_cons.mpr ⟨ml_250, (List.forall_mem_cons.mpr ⟨ml_251, (List.forall_mem_cons.mpr ⟨ml_252, (List.forall_mem_cons.mpr ⟨ml_253, (List.forall_mem_cons.mpr ⟨ml_254, (List.forall_mem_cons.mpr ⟨ml_255, (List.forall_mem_cons.mpr ⟨ml_67, (List.forall_mem_cons.mpr ⟨ml_256, (List.forall_mem_cons.mpr ⟨ml_257, (List.forall_mem_cons.mpr ⟨ml_258, (List.forall_mem_cons.mpr ⟨ml_259, (List.forall_mem_cons.mpr ⟨ml_260, (List.forall_mem_cons.mpr ⟨ml_261, (List.forall_mem_cons.mpr ⟨ml_262, (fun _ h => absurd h List.not_mem_nil)⟩)⟩)⟩)⟩)⟩)⟩)⟩)⟩)⟩)⟩)⟩)⟩)⟩)⟩)⟩)⟩)⟩)⟩)⟩)
set_option maxRecDepth 20000 in
theorem lp_wsX9_wipe : ∀ w ∈ wsX9_wipe, w ∈ wsL_law := (List.forall_mem_cons.mpr ⟨ml_333, (List.forall_mem_append.mpr ⟨(List.forall_mem_append.mpr ⟨(List.forall_mem_append.mpr ⟨(List.forall_mem_append.mpr ⟨(List.forall_mem_append.mpr ⟨(List.forall_mem_append.mpr ⟨lp_wsX9_wipe_r1, (List.forall_mem_append.mpr ⟨lp_wsX9_wipe_r2, (List.forall_mem_append.mpr ⟨lp_wsX9_wipe_r3, lp_wsX9_wipe_r4⟩)⟩)⟩), inlX9⟩), inlX0⟩), inlX2⟩), inlX1⟩), inlX6⟩)⟩)
set_option maxRecDepth 20000 in
theorem ml_330 : Cond.methodLink RL 35 yX9_wipe ∈ wsL_law := inr_14 _ (List.mem_of_getElem? (i := 18) rfl)
set_option maxRecDepth 20000 in
theorem ml_331 : Cond.instanceMethod yX9_wipe ∈ wsL_law := inr_14 _ (List.mem_of_getElem? (i := 19) rfl)
set_option maxRecDepth 20000 in
theorem ml_332 : Cond.selects RX9 yX9_wipe yX9_wipe ∈ wsL_law := inr_14 _ (List.mem_of_getElem? (i := 20) rfl)
set_option maxRecDepth 20000 in
theorem gL_law_X9_wipe : GoodIn wsL_law (wsV RL 35 RX9 yX9_wipe wsX9_wipe) := goodIn_sub (List.forall_mem_append.mpr ⟨List.forall_mem_cons.mpr ⟨ml_330, List.forall_mem_cons.mpr ⟨ml_331, List.forall_mem_cons.mpr ⟨ml_332, List.forall_mem_cons.mpr ⟨ml_2, (fun _ h => absurd h List.not_mem_nil)⟩⟩⟩⟩, lp_wsX9_wipe⟩) (by decide +kernel)
set_option maxRecDepth 20000 in
theorem ml_345 : Cond.code yX10_wipe cX10_wipe 3 (some .int) ∈ wsL_law := inr_15 _ (List.mem_of_getElem? (i := 9) rfl)
set_option maxRecDepth 20000 in
theorem lp_wsX10_wipe_r1 : ∀ w ∈ wsX10_wipe_r1, w ∈ wsL_law := (List.forall_mem_cons.mpr ⟨ml_179, (List.forall_mem_cons.mpr ⟨ml_181, (List.forall_mem_cons.mpr ⟨ml_267, (List.forall_mem_cons.mpr ⟨ml_268, (List.forall_mem_cons.mpr ⟨ml_269, (List.forall_mem_cons.mpr ⟨ml_5, (List.forall_mem_cons.mpr ⟨ml_270, (List.forall_mem_cons.mpr ⟨ml_108, (List.forall_mem_cons.mpr ⟨ml_185, (List.forall_mem_cons.mpr ⟨ml_186, (List.forall_mem_cons.mpr ⟨ml_187, (List.forall_mem_cons.mpr ⟨ml_188, (List.forall_mem_cons.mpr ⟨ml_189, (List.forall_mem_cons.mpr ⟨ml_190, (List.forall_mem_cons.mpr ⟨ml_191, (List.forall_mem_cons.mpr ⟨ml_111, (List.forall_mem_cons.mpr ⟨ml_192, (List.forall_mem_cons.mpr ⟨ml_271, (List.forall_mem_cons.mpr ⟨ml_272, (List.forall_mem_cons.mpr ⟨ml_273, (List.forall_mem_cons.mpr ⟨ml_274, (List.forall_mem_cons.mpr ⟨ml_200, (List.forall_mem_cons.mpr ⟨ml_201, (List.forall_mem_cons.mpr ⟨ml_202, (fun _ h => absurd h List.not_mem_nil)⟩)⟩)⟩)⟩)⟩)⟩)⟩)⟩)⟩)⟩)⟩)⟩)⟩)⟩)⟩)⟩)⟩)⟩)⟩)⟩)⟩)⟩)⟩)⟩)
set_option maxRecDepth 20000 in
theorem lp_wsX10_wipe_r2 : ∀ w ∈ wsX10_wipe_r2, w ∈ wsL_law := (List.forall_mem_cons.mpr ⟨ml_203, (List.forall_mem_cons.mpr ⟨ml_282, (List.forall_mem_cons.mpr ⟨ml_283, (List.forall_mem_cons.mpr ⟨ml_284, (List.forall_mem_cons.mpr ⟨ml_285, (List.forall_mem_cons.mpr ⟨ml_275, (List.forall_mem_cons.mpr ⟨ml_276, (List.forall_mem_cons.mpr ⟨ml_277, (List.forall_mem_cons.mpr ⟨ml_278, (List.forall_mem_cons.mpr ⟨ml_279, (List.forall_mem_cons.mpr ⟨ml_280, (List.forall_mem_cons.mpr ⟨ml_281, (List.forall_mem_cons.mpr ⟨ml_286, (List.forall_mem_cons.mpr ⟨ml_287, (List.forall_mem_cons.mpr ⟨ml_288, (List.forall_mem_cons.mpr ⟨ml_289, (List.forall_mem_cons.mpr ⟨ml_117, (List.forall_mem_cons.mpr ⟨ml_290, (List.forall_mem_cons.mpr ⟨ml_291, (List.forall_mem_cons.mpr ⟨ml_292, (List.forall_mem_cons.mpr ⟨ml_293, (List.forall_mem_cons.mpr ⟨ml_118, (List.forall_mem_cons.mpr ⟨ml_294, (List.forall_mem_cons.mpr ⟨ml_295, (fun _ h => absurd h List.not_mem_nil)⟩)⟩)⟩)⟩)⟩)⟩)⟩)⟩)⟩)⟩)⟩)⟩)⟩)⟩)⟩)⟩)⟩)⟩)⟩)⟩)⟩)⟩)⟩)⟩)
set_option maxRecDepth 20000 in
theorem ml_350 : Cond.constant RX10 77 (99999) ∈ wsL_law := inr_15 _ (List.mem_of_getElem? (i := 14) rfl)
set_option maxRecDepth 20000 in
theorem ml_349 : Cond.code yX10_isWiped cX10_isWiped 2 none ∈ wsL_law := inr_15 _ (List.mem_of_getElem? (i := 13) rfl)
set_option maxRecDepth 20000 in
theorem ml_348 : Cond.selects RX10 yX10_isWiped yX10_isWiped ∈ wsL_law := inr_15 _ (List.mem_of_getElem? (i := 12) rfl)
set_option maxRecDepth 20000 in
theorem ml_347 : Cond.instanceMethod yX10_isWiped ∈ wsL_law := inr_15 _ (List.mem_of_getElem? (i := 11) rfl)
set_option maxRecDepth 20000 in
theorem ml_346 : Cond.methodLink RX10 111 yX10_isWiped ∈ wsL_law := inr_15 _ (List.mem_of_getElem? (i := 10) rfl)
set_option maxRecDepth 20000 in
theorem lp_wsX10_wipe_r3 : ∀ w ∈ wsX10_wipe_r3, w ∈ wsL_law := (List.forall_mem_cons.mpr ⟨ml_296, (List.forall_mem_cons.mpr ⟨ml_346, (List.forall_mem_cons.mpr ⟨ml_347, (List.forall_mem_cons.mpr ⟨ml_348, (List.forall_mem_cons.mpr ⟨ml_349, (List.forall_mem_cons.mpr ⟨ml_350, (List.forall_mem_cons.mpr ⟨ml_208, (List.forall_mem_cons.mpr ⟨ml_209, (List.forall_mem_cons.mpr ⟨ml_210, (List.forall_mem_cons.mpr ⟨ml_211, (fun _ h => absurd h List.not_mem_nil)⟩)⟩)⟩)⟩)⟩)⟩)⟩)⟩)⟩)⟩)
set_option maxRecDepth 20000 in
theorem lp_wsX10_wipe : ∀ w ∈ wsX10_wipe, w ∈ wsL_law := (List.forall_mem_cons.mpr ⟨ml_345, (List.forall_mem_append.mpr ⟨(List.forall_mem_append.mpr ⟨lp_wsX10_wipe_r1, (List.forall_mem_append.mpr ⟨lp_wsX10_wipe_r2, lp_wsX10_wipe_r3⟩)⟩), inlX10⟩)⟩)
set_option maxRecDepth 20000 in
theorem ml_342 : Cond.methodLink RL 39 yX10_wipe ∈ wsL_law := inr_15 _ (List.mem_of_getElem? (i := 6) rfl)
set_option maxRecDepth 20000 in
theorem ml_343 : Cond.instanceMethod yX10_wipe ∈ wsL_law := inr_15 _ (List.mem_of_getElem? (i := 7) rfl)
set_option maxRecDepth 20000 in
theorem ml_344 : Cond.selects RX10 yX10_wipe yX10_wipe ∈ wsL_law := inr_15 _ (List.mem_of_getElem? (i := 8) rfl)
set_option maxRecDepth 20000 in
theorem gL_law_X10_wipe : GoodIn wsL_law (wsV RL 39 RX10 yX10_wipe wsX10_wipe) := goodIn_sub (List.forall_mem_append.mpr ⟨List.forall_mem_cons.mpr ⟨ml_342, List.forall_mem_cons.mpr ⟨ml_343, List.forall_mem_cons.mpr ⟨ml_344, List.forall_mem_cons.mpr ⟨ml_5, (fun _ h => absurd h List.not_mem_nil)⟩⟩⟩⟩, lp_wsX10_wipe⟩) (by decide +kernel)
set_option maxRecDepth 20000 in
theorem ml_354 : Cond.code yX9_pen cX9_pen 4 (some .int) ∈ wsL_law := inr_15 _ (List.mem_of_getElem? (i := 18) rfl)
set_option maxRecDepth 20000 in
theorem lp_wsX9_pen : ∀ w ∈ wsX9_pen, w ∈ wsL_law := (List.forall_mem_cons.mpr ⟨ml_354, (List.forall_mem_append.mpr ⟨(List.forall_mem_append.mpr ⟨(List.forall_mem_cons.mpr ⟨ml_16, (List.forall_mem_cons.mpr ⟨ml_128, (List.forall_mem_cons.mpr ⟨ml_129, (List.forall_mem_cons.mpr ⟨ml_2, (List.forall_mem_cons.mpr ⟨ml_130, (List.forall_mem_cons.mpr ⟨ml_131, (List.forall_mem_cons.mpr ⟨ml_132, (List.forall_mem_cons.mpr ⟨ml_133, (List.forall_mem_cons.mpr ⟨ml_134, (List.forall_mem_cons.mpr ⟨ml_37, (List.forall_mem_cons.mpr ⟨ml_135, (fun _ h => absurd h List.not_mem_nil)⟩)⟩)⟩)⟩)⟩)⟩)⟩)⟩)⟩)⟩)⟩), inlX9⟩), inlX0⟩)⟩)
set_option maxRecDepth 20000 in
theorem ml_351 : Cond.methodLink RL 40 yX9_pen ∈ wsL_law := inr_15 _ (List.mem_of_getElem? (i := 15) rfl)
set_option maxRecDepth 20000 in
theorem ml_352 : Cond.instanceMethod yX9_pen ∈ wsL_law := inr_15 _ (List.mem_of_getElem? (i := 16) rfl)
set_option maxRecDepth 20000 in
theorem ml_353 : Cond.selects RX9 yX9_pen yX9_pen ∈ wsL_law := inr_15 _ (List.mem_of_getElem? (i := 17) rfl)
set_option maxRecDepth 20000 in
theorem gL_law_X9_pen : GoodIn wsL_law (wsV RL 40 RX9 yX9_pen wsX9_pen) := goodIn_sub (List.forall_mem_append.mpr ⟨List.forall_mem_cons.mpr ⟨ml_351, List.forall_mem_cons.mpr ⟨ml_352, List.forall_mem_cons.mpr ⟨ml_353, List.forall_mem_cons.mpr ⟨ml_2, (fun _ h => absurd h List.not_mem_nil)⟩⟩⟩⟩, lp_wsX9_pen⟩) (by decide +kernel)
set_option maxRecDepth 20000 in
theorem ml_358 : Cond.code yX10_pen cX10_pen 3 (some .int) ∈ wsL_law := inr_15 _ (List.mem_of_getElem? (i := 22) rfl)
set_option maxRecDepth 20000 in
theorem lp_wsX10_pen : ∀ w ∈ wsX10_pen, w ∈ wsL_law := (List.forall_mem_cons.mpr ⟨ml_358, (List.forall_mem_append.mpr ⟨(List.forall_mem_cons.mpr ⟨ml_179, (List.forall_mem_cons.mpr ⟨ml_185, (List.forall_mem_cons.mpr ⟨ml_186, (List.forall_mem_cons.mpr ⟨ml_5, (List.forall_mem_cons.mpr ⟨ml_187, (List.forall_mem_cons.mpr ⟨ml_305, (List.forall_mem_cons.mpr ⟨ml_306, (List.forall_mem_cons.mpr ⟨ml_307, (List.forall_mem_cons.mpr ⟨ml_308, (List.forall_mem_cons.mpr ⟨ml_108, (List.forall_mem_cons.mpr ⟨ml_188, (List.forall_mem_cons.mpr ⟨ml_189, (List.forall_mem_cons.mpr ⟨ml_190, (List.forall_mem_cons.mpr ⟨ml_191, (List.forall_mem_cons.mpr ⟨ml_111, (List.forall_mem_cons.mpr ⟨ml_192, (fun _ h => absurd h List.not_mem_nil)⟩)⟩)⟩)⟩)⟩)⟩)⟩)⟩)⟩)⟩)⟩)⟩)⟩)⟩)⟩)⟩), inlX10⟩)⟩)
set_option maxRecDepth 20000 in
theorem ml_355 : Cond.methodLink RL 43 yX10_pen ∈ wsL_law := inr_15 _ (List.mem_of_getElem? (i := 19) rfl)
set_option maxRecDepth 20000 in
theorem ml_356 : Cond.instanceMethod yX10_pen ∈ wsL_law := inr_15 _ (List.mem_of_getElem? (i := 20) rfl)
set_option maxRecDepth 20000 in
theorem ml_357 : Cond.selects RX10 yX10_pen yX10_pen ∈ wsL_law := inr_15 _ (List.mem_of_getElem? (i := 21) rfl)
set_option maxRecDepth 20000 in
theorem gL_law_X10_pen : GoodIn wsL_law (wsV RL 43 RX10 yX10_pen wsX10_pen) := goodIn_sub (List.forall_mem_append.mpr ⟨List.forall_mem_cons.mpr ⟨ml_355, List.forall_mem_cons.mpr ⟨ml_356, List.forall_mem_cons.mpr ⟨ml_357, List.forall_mem_cons.mpr ⟨ml_5, (fun _ h => absurd h List.not_mem_nil)⟩⟩⟩⟩, lp_wsX10_pen⟩) (by decide +kernel)
set_option maxRecDepth 20000 in
theorem ml_362 : Cond.code yX9_spirit cX9_spirit 3 (some .int) ∈ wsL_law := inr_16 _ (List.mem_of_getElem? (i := 2) rfl)
set_option maxRecDepth 20000 in
theorem lp_wsX9_spirit : ∀ w ∈ wsX9_spirit, w ∈ wsL_law := (List.forall_mem_cons.mpr ⟨ml_362, (List.forall_mem_append.mpr ⟨(List.forall_mem_append.mpr ⟨(List.forall_mem_cons.mpr ⟨ml_16, (List.forall_mem_cons.mpr ⟨ml_128, (List.forall_mem_cons.mpr ⟨ml_129, (List.forall_mem_cons.mpr ⟨ml_2, (List.forall_mem_cons.mpr ⟨ml_130, (List.forall_mem_cons.mpr ⟨ml_131, (List.forall_mem_cons.mpr ⟨ml_132, (List.forall_mem_cons.mpr ⟨ml_133, (List.forall_mem_cons.mpr ⟨ml_134, (List.forall_mem_cons.mpr ⟨ml_37, (List.forall_mem_cons.mpr ⟨ml_135, (fun _ h => absurd h List.not_mem_nil)⟩)⟩)⟩)⟩)⟩)⟩)⟩)⟩)⟩)⟩)⟩), inlX9⟩), inlX0⟩)⟩)
set_option maxRecDepth 20000 in
theorem ml_359 : Cond.methodLink RL 44 yX9_spirit ∈ wsL_law := inr_15 _ (List.mem_of_getElem? (i := 23) rfl)
set_option maxRecDepth 20000 in
theorem ml_360 : Cond.instanceMethod yX9_spirit ∈ wsL_law := inr_16 _ (List.mem_of_getElem? (i := 0) rfl)
set_option maxRecDepth 20000 in
theorem ml_361 : Cond.selects RX9 yX9_spirit yX9_spirit ∈ wsL_law := inr_16 _ (List.mem_of_getElem? (i := 1) rfl)
set_option maxRecDepth 20000 in
theorem gL_law_X9_spirit : GoodIn wsL_law (wsV RL 44 RX9 yX9_spirit wsX9_spirit) := goodIn_sub (List.forall_mem_append.mpr ⟨List.forall_mem_cons.mpr ⟨ml_359, List.forall_mem_cons.mpr ⟨ml_360, List.forall_mem_cons.mpr ⟨ml_361, List.forall_mem_cons.mpr ⟨ml_2, (fun _ h => absurd h List.not_mem_nil)⟩⟩⟩⟩, lp_wsX9_spirit⟩) (by decide +kernel)
set_option maxRecDepth 20000 in
theorem ml_366 : Cond.code yX10_spirit cX10_spirit 2 (some .int) ∈ wsL_law := inr_16 _ (List.mem_of_getElem? (i := 6) rfl)
set_option maxRecDepth 20000 in
theorem lp_wsX10_spirit : ∀ w ∈ wsX10_spirit, w ∈ wsL_law := (List.forall_mem_cons.mpr ⟨ml_366, (List.forall_mem_append.mpr ⟨(List.forall_mem_cons.mpr ⟨ml_179, (List.forall_mem_cons.mpr ⟨ml_185, (List.forall_mem_cons.mpr ⟨ml_186, (List.forall_mem_cons.mpr ⟨ml_5, (List.forall_mem_cons.mpr ⟨ml_187, (List.forall_mem_cons.mpr ⟨ml_305, (List.forall_mem_cons.mpr ⟨ml_306, (List.forall_mem_cons.mpr ⟨ml_307, (List.forall_mem_cons.mpr ⟨ml_308, (List.forall_mem_cons.mpr ⟨ml_108, (List.forall_mem_cons.mpr ⟨ml_188, (List.forall_mem_cons.mpr ⟨ml_189, (List.forall_mem_cons.mpr ⟨ml_190, (List.forall_mem_cons.mpr ⟨ml_191, (List.forall_mem_cons.mpr ⟨ml_111, (List.forall_mem_cons.mpr ⟨ml_192, (fun _ h => absurd h List.not_mem_nil)⟩)⟩)⟩)⟩)⟩)⟩)⟩)⟩)⟩)⟩)⟩)⟩)⟩)⟩)⟩)⟩), inlX10⟩)⟩)
set_option maxRecDepth 20000 in
theorem ml_363 : Cond.methodLink RL 47 yX10_spirit ∈ wsL_law := inr_16 _ (List.mem_of_getElem? (i := 3) rfl)
set_option maxRecDepth 20000 in
theorem ml_364 : Cond.instanceMethod yX10_spirit ∈ wsL_law := inr_16 _ (List.mem_of_getElem? (i := 4) rfl)
set_option maxRecDepth 20000 in
theorem ml_365 : Cond.selects RX10 yX10_spirit yX10_spirit ∈ wsL_law := inr_16 _ (List.mem_of_getElem? (i := 5) rfl)
set_option maxRecDepth 20000 in
theorem gL_law_X10_spirit : GoodIn wsL_law (wsV RL 47 RX10 yX10_spirit wsX10_spirit) := goodIn_sub (List.forall_mem_append.mpr ⟨List.forall_mem_cons.mpr ⟨ml_363, List.forall_mem_cons.mpr ⟨ml_364, List.forall_mem_cons.mpr ⟨ml_365, List.forall_mem_cons.mpr ⟨ml_5, (fun _ h => absurd h List.not_mem_nil)⟩⟩⟩⟩, lp_wsX10_spirit⟩) (by decide +kernel)
set_option maxRecDepth 20000 in
theorem ml_370 : Cond.code yX9_feed cX9_feed 5 (some .int) ∈ wsL_law := inr_16 _ (List.mem_of_getElem? (i := 10) rfl)
set_option maxRecDepth 20000 in
theorem ml_375 : Cond.methodLink RX9 151 yX6_add ∈ wsL_law := inr_16 _ (List.mem_of_getElem? (i := 15) rfl)
set_option maxRecDepth 20000 in
theorem ml_374 : Cond.code yX6_hasRoomFor cX6_hasRoomFor 2 (some .boolean) ∈ wsL_law := inr_16 _ (List.mem_of_getElem? (i := 14) rfl)
set_option maxRecDepth 20000 in
theorem ml_373 : Cond.selects RX6 yX6_hasRoomFor yX6_hasRoomFor ∈ wsL_law := inr_16 _ (List.mem_of_getElem? (i := 13) rfl)
set_option maxRecDepth 20000 in
theorem ml_372 : Cond.instanceMethod yX6_hasRoomFor ∈ wsL_law := inr_16 _ (List.mem_of_getElem? (i := 12) rfl)
set_option maxRecDepth 20000 in
theorem ml_371 : Cond.methodLink RX9 146 yX6_hasRoomFor ∈ wsL_law := inr_16 _ (List.mem_of_getElem? (i := 11) rfl)
set_option maxRecDepth 20000 in
theorem lp_wsX9_feed : ∀ w ∈ wsX9_feed, w ∈ wsL_law := (List.forall_mem_cons.mpr ⟨ml_370, (List.forall_mem_append.mpr ⟨(List.forall_mem_append.mpr ⟨(List.forall_mem_append.mpr ⟨(List.forall_mem_cons.mpr ⟨ml_16, (List.forall_mem_cons.mpr ⟨ml_128, (List.forall_mem_cons.mpr ⟨ml_129, (List.forall_mem_cons.mpr ⟨ml_2, (List.forall_mem_cons.mpr ⟨ml_130, (List.forall_mem_cons.mpr ⟨ml_131, (List.forall_mem_cons.mpr ⟨ml_132, (List.forall_mem_cons.mpr ⟨ml_133, (List.forall_mem_cons.mpr ⟨ml_134, (List.forall_mem_cons.mpr ⟨ml_37, (List.forall_mem_cons.mpr ⟨ml_135, (List.forall_mem_cons.mpr ⟨ml_371, (List.forall_mem_cons.mpr ⟨ml_372, (List.forall_mem_cons.mpr ⟨ml_373, (List.forall_mem_cons.mpr ⟨ml_50, (List.forall_mem_cons.mpr ⟨ml_374, (List.forall_mem_cons.mpr ⟨ml_67, (List.forall_mem_cons.mpr ⟨ml_251, (List.forall_mem_cons.mpr ⟨ml_375, (List.forall_mem_cons.mpr ⟨ml_253, (List.forall_mem_cons.mpr ⟨ml_254, (List.forall_mem_cons.mpr ⟨ml_255, (fun _ h => absurd h List.not_mem_nil)⟩)⟩)⟩)⟩)⟩)⟩)⟩)⟩)⟩)⟩)⟩)⟩)⟩)⟩)⟩)⟩)⟩)⟩)⟩)⟩)⟩)⟩), inlX9⟩), inlX0⟩), inlX6⟩)⟩)
set_option maxRecDepth 20000 in
theorem ml_367 : Cond.methodLink RL 50 yX9_feed ∈ wsL_law := inr_16 _ (List.mem_of_getElem? (i := 7) rfl)
set_option maxRecDepth 20000 in
theorem ml_368 : Cond.instanceMethod yX9_feed ∈ wsL_law := inr_16 _ (List.mem_of_getElem? (i := 8) rfl)
set_option maxRecDepth 20000 in
theorem ml_369 : Cond.selects RX9 yX9_feed yX9_feed ∈ wsL_law := inr_16 _ (List.mem_of_getElem? (i := 9) rfl)
set_option maxRecDepth 20000 in
theorem gL_law_X9_feed : GoodIn wsL_law (wsV RL 50 RX9 yX9_feed wsX9_feed) := goodIn_sub (List.forall_mem_append.mpr ⟨List.forall_mem_cons.mpr ⟨ml_367, List.forall_mem_cons.mpr ⟨ml_368, List.forall_mem_cons.mpr ⟨ml_369, List.forall_mem_cons.mpr ⟨ml_2, (fun _ h => absurd h List.not_mem_nil)⟩⟩⟩⟩, lp_wsX9_feed⟩) (by decide +kernel)
set_option maxRecDepth 20000 in
theorem ml_379 : Cond.code yX10_feed cX10_feed 5 (some .int) ∈ wsL_law := inr_16 _ (List.mem_of_getElem? (i := 19) rfl)
set_option maxRecDepth 20000 in
theorem ml_380 : Cond.constantLong RX10 115 (255) ∈ wsL_law := inr_16 _ (List.mem_of_getElem? (i := 20) rfl)
set_option maxRecDepth 20000 in
theorem lp_wsX10_feed : ∀ w ∈ wsX10_feed, w ∈ wsL_law := (List.forall_mem_cons.mpr ⟨ml_379, (List.forall_mem_append.mpr ⟨(List.forall_mem_cons.mpr ⟨ml_179, (List.forall_mem_cons.mpr ⟨ml_108, (List.forall_mem_cons.mpr ⟨ml_180, (List.forall_mem_cons.mpr ⟨ml_380, (List.forall_mem_cons.mpr ⟨ml_185, (List.forall_mem_cons.mpr ⟨ml_186, (List.forall_mem_cons.mpr ⟨ml_5, (List.forall_mem_cons.mpr ⟨ml_187, (List.forall_mem_cons.mpr ⟨ml_188, (List.forall_mem_cons.mpr ⟨ml_189, (List.forall_mem_cons.mpr ⟨ml_190, (List.forall_mem_cons.mpr ⟨ml_191, (List.forall_mem_cons.mpr ⟨ml_111, (List.forall_mem_cons.mpr ⟨ml_192, (fun _ h => absurd h List.not_mem_nil)⟩)⟩)⟩)⟩)⟩)⟩)⟩)⟩)⟩)⟩)⟩)⟩)⟩)⟩), inlX10⟩)⟩)
set_option maxRecDepth 20000 in
theorem ml_376 : Cond.methodLink RL 54 yX10_feed ∈ wsL_law := inr_16 _ (List.mem_of_getElem? (i := 16) rfl)
set_option maxRecDepth 20000 in
theorem ml_377 : Cond.instanceMethod yX10_feed ∈ wsL_law := inr_16 _ (List.mem_of_getElem? (i := 17) rfl)
set_option maxRecDepth 20000 in
theorem ml_378 : Cond.selects RX10 yX10_feed yX10_feed ∈ wsL_law := inr_16 _ (List.mem_of_getElem? (i := 18) rfl)
set_option maxRecDepth 20000 in
theorem gL_law_X10_feed : GoodIn wsL_law (wsV RL 54 RX10 yX10_feed wsX10_feed) := goodIn_sub (List.forall_mem_append.mpr ⟨List.forall_mem_cons.mpr ⟨ml_376, List.forall_mem_cons.mpr ⟨ml_377, List.forall_mem_cons.mpr ⟨ml_378, List.forall_mem_cons.mpr ⟨ml_5, (fun _ h => absurd h List.not_mem_nil)⟩⟩⟩⟩, lp_wsX10_feed⟩) (by decide +kernel)
set_option maxRecDepth 20000 in
theorem ml_384 : Cond.code yX9_text cX9_text 3 (some .int) ∈ wsL_law := inr_17 _ (List.mem_of_getElem? (i := 0) rfl)
set_option maxRecDepth 20000 in
theorem ml_391 : Cond.methodLink RX4 30 yX6_clear ∈ wsL_law := inr_17 _ (List.mem_of_getElem? (i := 7) rfl)
set_option maxRecDepth 20000 in
theorem ml_390 : Cond.fieldLink RX4 27 "BoardKeep$Reader" "at" "I" ∈ wsL_law := inr_17 _ (List.mem_of_getElem? (i := 6) rfl)
set_option maxRecDepth 20000 in
theorem ml_389 : Cond.fieldLink RX4 23 "BoardKeep$Reader" "use" "I" ∈ wsL_law := inr_17 _ (List.mem_of_getElem? (i := 5) rfl)
set_option maxRecDepth 20000 in
theorem ml_388 : Cond.code yX4_reads cX4_reads 3 (some .boolean) ∈ wsL_law := inr_17 _ (List.mem_of_getElem? (i := 4) rfl)
set_option maxRecDepth 20000 in
theorem ml_387 : Cond.selects RX4 yX4_reads yX4_reads ∈ wsL_law := inr_17 _ (List.mem_of_getElem? (i := 3) rfl)
set_option maxRecDepth 20000 in
theorem ml_386 : Cond.instanceMethod yX4_reads ∈ wsL_law := inr_17 _ (List.mem_of_getElem? (i := 2) rfl)
set_option maxRecDepth 20000 in
theorem ml_385 : Cond.methodLink RX9 156 yX4_reads ∈ wsL_law := inr_17 _ (List.mem_of_getElem? (i := 1) rfl)
set_option maxRecDepth 20000 in
theorem lp_wsX9_text_r1 : ∀ w ∈ wsX9_text_r1, w ∈ wsL_law := (List.forall_mem_cons.mpr ⟨ml_21, (List.forall_mem_cons.mpr ⟨ml_16, (List.forall_mem_cons.mpr ⟨ml_128, (List.forall_mem_cons.mpr ⟨ml_129, (List.forall_mem_cons.mpr ⟨ml_2, (List.forall_mem_cons.mpr ⟨ml_130, (List.forall_mem_cons.mpr ⟨ml_131, (List.forall_mem_cons.mpr ⟨ml_132, (List.forall_mem_cons.mpr ⟨ml_133, (List.forall_mem_cons.mpr ⟨ml_134, (List.forall_mem_cons.mpr ⟨ml_37, (List.forall_mem_cons.mpr ⟨ml_135, (List.forall_mem_cons.mpr ⟨ml_385, (List.forall_mem_cons.mpr ⟨ml_386, (List.forall_mem_cons.mpr ⟨ml_387, (List.forall_mem_cons.mpr ⟨ml_20, (List.forall_mem_cons.mpr ⟨ml_388, (List.forall_mem_cons.mpr ⟨ml_83, (List.forall_mem_cons.mpr ⟨ml_389, (List.forall_mem_cons.mpr ⟨ml_390, (List.forall_mem_cons.mpr ⟨ml_82, (List.forall_mem_cons.mpr ⟨ml_391, (List.forall_mem_cons.mpr ⟨ml_248, (List.forall_mem_cons.mpr ⟨ml_249, (fun _ h => absurd h List.not_mem_nil)⟩)⟩)⟩)⟩)⟩)⟩)⟩)⟩)⟩)⟩)⟩)⟩)⟩)⟩)⟩)⟩)⟩)⟩)⟩)⟩)⟩)⟩)⟩)⟩)
set_option maxRecDepth 20000 in
theorem ml_408 : Cond.code yX4_readsNot cX4_readsNot 2 (some .boolean) ∈ wsL_law := inr_18 _ (List.mem_of_getElem? (i := 0) rfl)
set_option maxRecDepth 20000 in
theorem ml_407 : Cond.code yX4_readsGroup cX4_readsGroup 2 (some .boolean) ∈ wsL_law := inr_17 _ (List.mem_of_getElem? (i := 23) rfl)
set_option maxRecDepth 20000 in
theorem ml_406 : Cond.methodLink RX4 52 yX6_add ∈ wsL_law := inr_17 _ (List.mem_of_getElem? (i := 22) rfl)
set_option maxRecDepth 20000 in
theorem ml_405 : Cond.code yX4_levelOf cX4_levelOf 1 (some .int) ∈ wsL_law := inr_17 _ (List.mem_of_getElem? (i := 21) rfl)
set_option maxRecDepth 20000 in
theorem ml_404 : Cond.static yX4_levelOf ∈ wsL_law := inr_17 _ (List.mem_of_getElem? (i := 20) rfl)
set_option maxRecDepth 20000 in
theorem ml_403 : Cond.methodLink RX4 48 yX4_levelOf ∈ wsL_law := inr_17 _ (List.mem_of_getElem? (i := 19) rfl)
set_option maxRecDepth 20000 in
theorem ml_402 : Cond.code yX4_next cX4_next 1 (some .int) ∈ wsL_law := inr_17 _ (List.mem_of_getElem? (i := 18) rfl)
set_option maxRecDepth 20000 in
theorem ml_401 : Cond.selects RX4 yX4_next yX4_next ∈ wsL_law := inr_17 _ (List.mem_of_getElem? (i := 17) rfl)
set_option maxRecDepth 20000 in
theorem ml_400 : Cond.instanceMethod yX4_next ∈ wsL_law := inr_17 _ (List.mem_of_getElem? (i := 16) rfl)
set_option maxRecDepth 20000 in
theorem ml_399 : Cond.methodLink RX4 44 yX4_next ∈ wsL_law := inr_17 _ (List.mem_of_getElem? (i := 15) rfl)
set_option maxRecDepth 20000 in
theorem ml_398 : Cond.selects RX4 yX4_readsQ yX4_readsQ ∈ wsL_law := inr_17 _ (List.mem_of_getElem? (i := 14) rfl)
set_option maxRecDepth 20000 in
theorem ml_397 : Cond.instanceMethod yX4_readsQ ∈ wsL_law := inr_17 _ (List.mem_of_getElem? (i := 13) rfl)
set_option maxRecDepth 20000 in
theorem ml_396 : Cond.methodLink RX4 40 yX4_readsQ ∈ wsL_law := inr_17 _ (List.mem_of_getElem? (i := 12) rfl)
set_option maxRecDepth 20000 in
theorem ml_395 : Cond.code yX4_readsLevel cX4_readsLevel 6 (some .boolean) ∈ wsL_law := inr_17 _ (List.mem_of_getElem? (i := 11) rfl)
set_option maxRecDepth 20000 in
theorem ml_394 : Cond.selects RX4 yX4_readsLevel yX4_readsLevel ∈ wsL_law := inr_17 _ (List.mem_of_getElem? (i := 10) rfl)
set_option maxRecDepth 20000 in
theorem ml_393 : Cond.instanceMethod yX4_readsLevel ∈ wsL_law := inr_17 _ (List.mem_of_getElem? (i := 9) rfl)
set_option maxRecDepth 20000 in
theorem ml_392 : Cond.methodLink RX4 33 yX4_readsLevel ∈ wsL_law := inr_17 _ (List.mem_of_getElem? (i := 8) rfl)
set_option maxRecDepth 20000 in
theorem lp_wsX9_text_r2 : ∀ w ∈ wsX9_text_r2, w ∈ wsL_law := (List.forall_mem_cons.mpr ⟨ml_50, (List.forall_mem_cons.mpr ⟨ml_250, (List.forall_mem_cons.mpr ⟨ml_251, (List.forall_mem_cons.mpr ⟨ml_392, (List.forall_mem_cons.mpr ⟨ml_393, (List.forall_mem_cons.mpr ⟨ml_394, (List.forall_mem_cons.mpr ⟨ml_395, (List.forall_mem_cons.mpr ⟨ml_396, (List.forall_mem_cons.mpr ⟨ml_397, (List.forall_mem_cons.mpr ⟨ml_398, (List.forall_mem_cons.mpr ⟨ml_399, (List.forall_mem_cons.mpr ⟨ml_400, (List.forall_mem_cons.mpr ⟨ml_401, (List.forall_mem_cons.mpr ⟨ml_402, (List.forall_mem_cons.mpr ⟨ml_403, (List.forall_mem_cons.mpr ⟨ml_404, (List.forall_mem_cons.mpr ⟨ml_405, (List.forall_mem_cons.mpr ⟨ml_406, (List.forall_mem_cons.mpr ⟨ml_253, (List.forall_mem_cons.mpr ⟨ml_254, (List.forall_mem_cons.mpr ⟨ml_255, (List.forall_mem_cons.mpr ⟨ml_67, (List.forall_mem_cons.mpr ⟨ml_407, (List.forall_mem_cons.mpr ⟨ml_408, (fun _ h => absurd h List.not_mem_nil)⟩)⟩)⟩)⟩)⟩)⟩)⟩)⟩)⟩)⟩)⟩)⟩)⟩)⟩)⟩)⟩)⟩)⟩)⟩)⟩)⟩)⟩)⟩)⟩)
set_option maxRecDepth 20000 in
theorem ml_430 : Cond.methodLink RX1 21 yX6_copyFrom ∈ wsL_law := inr_18 _ (List.mem_of_getElem? (i := 22) rfl)
set_option maxRecDepth 20000 in
theorem ml_429 : Cond.fieldLink RX1 25 "BoardKeep$Law" "there" "Z" ∈ wsL_law := inr_18 _ (List.mem_of_getElem? (i := 21) rfl)
set_option maxRecDepth 20000 in
theorem ml_428 : Cond.code yX1_take cX1_take 2 none ∈ wsL_law := inr_18 _ (List.mem_of_getElem? (i := 20) rfl)
set_option maxRecDepth 20000 in
theorem ml_427 : Cond.selects RX1 yX1_take yX1_take ∈ wsL_law := inr_18 _ (List.mem_of_getElem? (i := 19) rfl)
set_option maxRecDepth 20000 in
theorem ml_426 : Cond.instanceMethod yX1_take ∈ wsL_law := inr_18 _ (List.mem_of_getElem? (i := 18) rfl)
set_option maxRecDepth 20000 in
theorem ml_425 : Cond.methodLink RX9 173 yX1_take ∈ wsL_law := inr_18 _ (List.mem_of_getElem? (i := 17) rfl)
set_option maxRecDepth 20000 in
theorem ml_424 : Cond.methodLink RX9 160 yX6_clear ∈ wsL_law := inr_18 _ (List.mem_of_getElem? (i := 16) rfl)
set_option maxRecDepth 20000 in
theorem ml_423 : Cond.selects RX4 yX4_readsGroup yX4_readsGroup ∈ wsL_law := inr_18 _ (List.mem_of_getElem? (i := 15) rfl)
set_option maxRecDepth 20000 in
theorem ml_422 : Cond.instanceMethod yX4_readsGroup ∈ wsL_law := inr_18 _ (List.mem_of_getElem? (i := 14) rfl)
set_option maxRecDepth 20000 in
theorem ml_421 : Cond.methodLink RX4 69 yX4_readsGroup ∈ wsL_law := inr_18 _ (List.mem_of_getElem? (i := 13) rfl)
set_option maxRecDepth 20000 in
theorem ml_420 : Cond.selects RX4 yX4_readsNot yX4_readsNot ∈ wsL_law := inr_18 _ (List.mem_of_getElem? (i := 12) rfl)
set_option maxRecDepth 20000 in
theorem ml_419 : Cond.instanceMethod yX4_readsNot ∈ wsL_law := inr_18 _ (List.mem_of_getElem? (i := 11) rfl)
set_option maxRecDepth 20000 in
theorem ml_418 : Cond.methodLink RX4 66 yX4_readsNot ∈ wsL_law := inr_18 _ (List.mem_of_getElem? (i := 10) rfl)
set_option maxRecDepth 20000 in
theorem ml_417 : Cond.code yX4_readsNumber cX4_readsNumber 3 (some .boolean) ∈ wsL_law := inr_18 _ (List.mem_of_getElem? (i := 9) rfl)
set_option maxRecDepth 20000 in
theorem ml_416 : Cond.selects RX4 yX4_readsNumber yX4_readsNumber ∈ wsL_law := inr_18 _ (List.mem_of_getElem? (i := 8) rfl)
set_option maxRecDepth 20000 in
theorem ml_415 : Cond.instanceMethod yX4_readsNumber ∈ wsL_law := inr_18 _ (List.mem_of_getElem? (i := 7) rfl)
set_option maxRecDepth 20000 in
theorem ml_414 : Cond.methodLink RX4 58 yX4_readsNumber ∈ wsL_law := inr_18 _ (List.mem_of_getElem? (i := 6) rfl)
set_option maxRecDepth 20000 in
theorem ml_413 : Cond.code yX4_isDigit cX4_isDigit 1 (some .boolean) ∈ wsL_law := inr_18 _ (List.mem_of_getElem? (i := 5) rfl)
set_option maxRecDepth 20000 in
theorem ml_412 : Cond.static yX4_isDigit ∈ wsL_law := inr_18 _ (List.mem_of_getElem? (i := 4) rfl)
set_option maxRecDepth 20000 in
theorem ml_411 : Cond.methodLink RX4 55 yX4_isDigit ∈ wsL_law := inr_18 _ (List.mem_of_getElem? (i := 3) rfl)
set_option maxRecDepth 20000 in
theorem ml_410 : Cond.fieldLink RX4 62 "BoardKeep$Reader" "NAMES" "[C" ∈ wsL_law := inr_18 _ (List.mem_of_getElem? (i := 2) rfl)
set_option maxRecDepth 20000 in
theorem ml_409 : Cond.code yX4_readsQ cX4_readsQ 4 (some .boolean) ∈ wsL_law := inr_18 _ (List.mem_of_getElem? (i := 1) rfl)
set_option maxRecDepth 20000 in
theorem lp_wsX9_text_r3 : ∀ w ∈ wsX9_text_r3, w ∈ wsL_law := (List.forall_mem_cons.mpr ⟨ml_409, (List.forall_mem_cons.mpr ⟨ml_410, (List.forall_mem_cons.mpr ⟨ml_411, (List.forall_mem_cons.mpr ⟨ml_412, (List.forall_mem_cons.mpr ⟨ml_413, (List.forall_mem_cons.mpr ⟨ml_414, (List.forall_mem_cons.mpr ⟨ml_415, (List.forall_mem_cons.mpr ⟨ml_416, (List.forall_mem_cons.mpr ⟨ml_417, (List.forall_mem_cons.mpr ⟨ml_418, (List.forall_mem_cons.mpr ⟨ml_419, (List.forall_mem_cons.mpr ⟨ml_420, (List.forall_mem_cons.mpr ⟨ml_421, (List.forall_mem_cons.mpr ⟨ml_422, (List.forall_mem_cons.mpr ⟨ml_423, (List.forall_mem_cons.mpr ⟨ml_424, (List.forall_mem_cons.mpr ⟨ml_425, (List.forall_mem_cons.mpr ⟨ml_426, (List.forall_mem_cons.mpr ⟨ml_427, (List.forall_mem_cons.mpr ⟨ml_55, (List.forall_mem_cons.mpr ⟨ml_428, (List.forall_mem_cons.mpr ⟨ml_72, (List.forall_mem_cons.mpr ⟨ml_429, (List.forall_mem_cons.mpr ⟨ml_430, (fun _ h => absurd h List.not_mem_nil)⟩)⟩)⟩)⟩)⟩)⟩)⟩)⟩)⟩)⟩)⟩)⟩)⟩)⟩)⟩)⟩)⟩)⟩)⟩)⟩)⟩)⟩)⟩)⟩)
set_option maxRecDepth 20000 in
theorem ml_435 : Cond.methodLink RX6 26 yX6_add ∈ wsL_law := inr_19 _ (List.mem_of_getElem? (i := 3) rfl)
set_option maxRecDepth 20000 in
theorem ml_434 : Cond.methodLink RX6 23 yX6_clear ∈ wsL_law := inr_19 _ (List.mem_of_getElem? (i := 2) rfl)
set_option maxRecDepth 20000 in
theorem ml_433 : Cond.code yX6_copyFrom cX6_copyFrom 3 none ∈ wsL_law := inr_19 _ (List.mem_of_getElem? (i := 1) rfl)
set_option maxRecDepth 20000 in
theorem ml_432 : Cond.selects RX6 yX6_copyFrom yX6_copyFrom ∈ wsL_law := inr_19 _ (List.mem_of_getElem? (i := 0) rfl)
set_option maxRecDepth 20000 in
theorem ml_431 : Cond.instanceMethod yX6_copyFrom ∈ wsL_law := inr_18 _ (List.mem_of_getElem? (i := 23) rfl)
set_option maxRecDepth 20000 in
theorem lp_wsX9_text_r4 : ∀ w ∈ wsX9_text_r4, w ∈ wsL_law := (List.forall_mem_cons.mpr ⟨ml_431, (List.forall_mem_cons.mpr ⟨ml_432, (List.forall_mem_cons.mpr ⟨ml_433, (List.forall_mem_cons.mpr ⟨ml_434, (List.forall_mem_cons.mpr ⟨ml_435, (fun _ h => absurd h List.not_mem_nil)⟩)⟩)⟩)⟩)⟩)
set_option maxRecDepth 20000 in
theorem lp_wsX9_text : ∀ w ∈ wsX9_text, w ∈ wsL_law := (List.forall_mem_cons.mpr ⟨ml_384, (List.forall_mem_append.mpr ⟨(List.forall_mem_append.mpr ⟨(List.forall_mem_append.mpr ⟨(List.forall_mem_append.mpr ⟨(List.forall_mem_append.mpr ⟨(List.forall_mem_append.mpr ⟨lp_wsX9_text_r1, (List.forall_mem_append.mpr ⟨lp_wsX9_text_r2, (List.forall_mem_append.mpr ⟨lp_wsX9_text_r3, lp_wsX9_text_r4⟩)⟩)⟩), inlX9⟩), inlX0⟩), inlX4⟩), inlX6⟩), inlX1⟩)⟩)
set_option maxRecDepth 20000 in
theorem ml_381 : Cond.methodLink RL 55 yX9_text ∈ wsL_law := inr_16 _ (List.mem_of_getElem? (i := 21) rfl)
set_option maxRecDepth 20000 in
theorem ml_382 : Cond.instanceMethod yX9_text ∈ wsL_law := inr_16 _ (List.mem_of_getElem? (i := 22) rfl)
set_option maxRecDepth 20000 in
theorem ml_383 : Cond.selects RX9 yX9_text yX9_text ∈ wsL_law := inr_16 _ (List.mem_of_getElem? (i := 23) rfl)
set_option maxRecDepth 20000 in
theorem gL_law_X9_text : GoodIn wsL_law (wsV RL 55 RX9 yX9_text wsX9_text) := goodIn_sub (List.forall_mem_append.mpr ⟨List.forall_mem_cons.mpr ⟨ml_381, List.forall_mem_cons.mpr ⟨ml_382, List.forall_mem_cons.mpr ⟨ml_383, List.forall_mem_cons.mpr ⟨ml_2, (fun _ h => absurd h List.not_mem_nil)⟩⟩⟩⟩, lp_wsX9_text⟩) (by decide +kernel)
set_option maxRecDepth 20000 in
theorem ml_439 : Cond.code yX10_text cX10_text 4 (some .int) ∈ wsL_law := inr_19 _ (List.mem_of_getElem? (i := 7) rfl)
set_option maxRecDepth 20000 in
theorem ml_449 : Cond.methodLink RX10 166 yX10_all ∈ wsL_law := inr_19 _ (List.mem_of_getElem? (i := 17) rfl)
set_option maxRecDepth 20000 in
theorem ml_448 : Cond.code yX10_any cX10_any 1 none ∈ wsL_law := inr_19 _ (List.mem_of_getElem? (i := 16) rfl)
set_option maxRecDepth 20000 in
theorem ml_447 : Cond.selects RX10 yX10_any yX10_any ∈ wsL_law := inr_19 _ (List.mem_of_getElem? (i := 15) rfl)
set_option maxRecDepth 20000 in
theorem ml_446 : Cond.instanceMethod yX10_any ∈ wsL_law := inr_19 _ (List.mem_of_getElem? (i := 14) rfl)
set_option maxRecDepth 20000 in
theorem ml_445 : Cond.methodLink RX10 145 yX10_any ∈ wsL_law := inr_19 _ (List.mem_of_getElem? (i := 13) rfl)
set_option maxRecDepth 20000 in
theorem ml_444 : Cond.fieldLink RX10 131 "BoardKeepModel" "bad" "Z" ∈ wsL_law := inr_19 _ (List.mem_of_getElem? (i := 12) rfl)
set_option maxRecDepth 20000 in
theorem ml_443 : Cond.fieldLink RX10 139 "BoardKeepModel" "opened" "I" ∈ wsL_law := inr_19 _ (List.mem_of_getElem? (i := 11) rfl)
set_option maxRecDepth 20000 in
theorem ml_442 : Cond.fieldLink RX10 117 "BoardKeepModel" "here" "I" ∈ wsL_law := inr_19 _ (List.mem_of_getElem? (i := 10) rfl)
set_option maxRecDepth 20000 in
theorem ml_441 : Cond.fieldLink RX10 121 "BoardKeepModel" "laid" "I" ∈ wsL_law := inr_19 _ (List.mem_of_getElem? (i := 9) rfl)
set_option maxRecDepth 20000 in
theorem ml_440 : Cond.fieldLink RX10 124 "BoardKeepModel" "using" "I" ∈ wsL_law := inr_19 _ (List.mem_of_getElem? (i := 8) rfl)
set_option maxRecDepth 20000 in
theorem lp_wsX10_text_r1 : ∀ w ∈ wsX10_text_r1, w ∈ wsL_law := (List.forall_mem_cons.mpr ⟨ml_179, (List.forall_mem_cons.mpr ⟨ml_440, (List.forall_mem_cons.mpr ⟨ml_441, (List.forall_mem_cons.mpr ⟨ml_442, (List.forall_mem_cons.mpr ⟨ml_443, (List.forall_mem_cons.mpr ⟨ml_444, (List.forall_mem_cons.mpr ⟨ml_108, (List.forall_mem_cons.mpr ⟨ml_115, (List.forall_mem_cons.mpr ⟨ml_116, (List.forall_mem_cons.mpr ⟨ml_185, (List.forall_mem_cons.mpr ⟨ml_186, (List.forall_mem_cons.mpr ⟨ml_5, (List.forall_mem_cons.mpr ⟨ml_187, (List.forall_mem_cons.mpr ⟨ml_188, (List.forall_mem_cons.mpr ⟨ml_189, (List.forall_mem_cons.mpr ⟨ml_190, (List.forall_mem_cons.mpr ⟨ml_191, (List.forall_mem_cons.mpr ⟨ml_111, (List.forall_mem_cons.mpr ⟨ml_192, (List.forall_mem_cons.mpr ⟨ml_445, (List.forall_mem_cons.mpr ⟨ml_446, (List.forall_mem_cons.mpr ⟨ml_447, (List.forall_mem_cons.mpr ⟨ml_448, (List.forall_mem_cons.mpr ⟨ml_449, (fun _ h => absurd h List.not_mem_nil)⟩)⟩)⟩)⟩)⟩)⟩)⟩)⟩)⟩)⟩)⟩)⟩)⟩)⟩)⟩)⟩)⟩)⟩)⟩)⟩)⟩)⟩)⟩)⟩)
set_option maxRecDepth 20000 in
theorem ml_473 : Cond.methodLink RX10 151 yX10_opens ∈ wsL_law := inr_20 _ (List.mem_of_getElem? (i := 17) rfl)
set_option maxRecDepth 20000 in
theorem ml_472 : Cond.code yX10_nameOf cX10_nameOf 2 (some .int) ∈ wsL_law := inr_20 _ (List.mem_of_getElem? (i := 16) rfl)
set_option maxRecDepth 20000 in
theorem ml_471 : Cond.selects RX10 yX10_nameOf yX10_nameOf ∈ wsL_law := inr_20 _ (List.mem_of_getElem? (i := 15) rfl)
set_option maxRecDepth 20000 in
theorem ml_470 : Cond.instanceMethod yX10_nameOf ∈ wsL_law := inr_20 _ (List.mem_of_getElem? (i := 14) rfl)
set_option maxRecDepth 20000 in
theorem ml_469 : Cond.methodLink RX10 148 yX10_nameOf ∈ wsL_law := inr_20 _ (List.mem_of_getElem? (i := 13) rfl)
set_option maxRecDepth 20000 in
theorem ml_468 : Cond.code yX10_one cX10_one 3 none ∈ wsL_law := inr_20 _ (List.mem_of_getElem? (i := 12) rfl)
set_option maxRecDepth 20000 in
theorem ml_467 : Cond.selects RX10 yX10_sum yX10_sum ∈ wsL_law := inr_20 _ (List.mem_of_getElem? (i := 11) rfl)
set_option maxRecDepth 20000 in
theorem ml_466 : Cond.instanceMethod yX10_sum ∈ wsL_law := inr_20 _ (List.mem_of_getElem? (i := 10) rfl)
set_option maxRecDepth 20000 in
theorem ml_465 : Cond.methodLink RX10 160 yX10_sum ∈ wsL_law := inr_20 _ (List.mem_of_getElem? (i := 9) rfl)
set_option maxRecDepth 20000 in
theorem ml_464 : Cond.code yX10_compares cX10_compares 2 none ∈ wsL_law := inr_20 _ (List.mem_of_getElem? (i := 8) rfl)
set_option maxRecDepth 20000 in
theorem ml_463 : Cond.selects RX10 yX10_compares yX10_compares ∈ wsL_law := inr_20 _ (List.mem_of_getElem? (i := 7) rfl)
set_option maxRecDepth 20000 in
theorem ml_462 : Cond.instanceMethod yX10_compares ∈ wsL_law := inr_20 _ (List.mem_of_getElem? (i := 6) rfl)
set_option maxRecDepth 20000 in
theorem ml_461 : Cond.methodLink RX10 163 yX10_compares ∈ wsL_law := inr_20 _ (List.mem_of_getElem? (i := 5) rfl)
set_option maxRecDepth 20000 in
theorem ml_460 : Cond.code yX10_all cX10_all 1 none ∈ wsL_law := inr_20 _ (List.mem_of_getElem? (i := 4) rfl)
set_option maxRecDepth 20000 in
theorem ml_459 : Cond.code yX10_step cX10_step 3 none ∈ wsL_law := inr_20 _ (List.mem_of_getElem? (i := 3) rfl)
set_option maxRecDepth 20000 in
theorem ml_458 : Cond.selects RX10 yX10_step yX10_step ∈ wsL_law := inr_20 _ (List.mem_of_getElem? (i := 2) rfl)
set_option maxRecDepth 20000 in
theorem ml_457 : Cond.instanceMethod yX10_step ∈ wsL_law := inr_20 _ (List.mem_of_getElem? (i := 1) rfl)
set_option maxRecDepth 20000 in
theorem ml_456 : Cond.methodLink RX10 135 yX10_step ∈ wsL_law := inr_20 _ (List.mem_of_getElem? (i := 0) rfl)
set_option maxRecDepth 20000 in
theorem ml_455 : Cond.code yX10_look cX10_look 1 (some .int) ∈ wsL_law := inr_19 _ (List.mem_of_getElem? (i := 23) rfl)
set_option maxRecDepth 20000 in
theorem ml_454 : Cond.selects RX10 yX10_look yX10_look ∈ wsL_law := inr_19 _ (List.mem_of_getElem? (i := 22) rfl)
set_option maxRecDepth 20000 in
theorem ml_453 : Cond.instanceMethod yX10_look ∈ wsL_law := inr_19 _ (List.mem_of_getElem? (i := 21) rfl)
set_option maxRecDepth 20000 in
theorem ml_452 : Cond.methodLink RX10 127 yX10_look ∈ wsL_law := inr_19 _ (List.mem_of_getElem? (i := 20) rfl)
set_option maxRecDepth 20000 in
theorem ml_451 : Cond.selects RX10 yX10_all yX10_all ∈ wsL_law := inr_19 _ (List.mem_of_getElem? (i := 19) rfl)
set_option maxRecDepth 20000 in
theorem ml_450 : Cond.instanceMethod yX10_all ∈ wsL_law := inr_19 _ (List.mem_of_getElem? (i := 18) rfl)
set_option maxRecDepth 20000 in
theorem lp_wsX10_text_r2 : ∀ w ∈ wsX10_text_r2, w ∈ wsL_law := (List.forall_mem_cons.mpr ⟨ml_450, (List.forall_mem_cons.mpr ⟨ml_451, (List.forall_mem_cons.mpr ⟨ml_452, (List.forall_mem_cons.mpr ⟨ml_453, (List.forall_mem_cons.mpr ⟨ml_454, (List.forall_mem_cons.mpr ⟨ml_455, (List.forall_mem_cons.mpr ⟨ml_456, (List.forall_mem_cons.mpr ⟨ml_457, (List.forall_mem_cons.mpr ⟨ml_458, (List.forall_mem_cons.mpr ⟨ml_459, (List.forall_mem_cons.mpr ⟨ml_460, (List.forall_mem_cons.mpr ⟨ml_461, (List.forall_mem_cons.mpr ⟨ml_462, (List.forall_mem_cons.mpr ⟨ml_463, (List.forall_mem_cons.mpr ⟨ml_464, (List.forall_mem_cons.mpr ⟨ml_465, (List.forall_mem_cons.mpr ⟨ml_466, (List.forall_mem_cons.mpr ⟨ml_467, (List.forall_mem_cons.mpr ⟨ml_468, (List.forall_mem_cons.mpr ⟨ml_469, (List.forall_mem_cons.mpr ⟨ml_470, (List.forall_mem_cons.mpr ⟨ml_471, (List.forall_mem_cons.mpr ⟨ml_472, (List.forall_mem_cons.mpr ⟨ml_473, (fun _ h => absurd h List.not_mem_nil)⟩)⟩)⟩)⟩)⟩)⟩)⟩)⟩)⟩)⟩)⟩)⟩)⟩)⟩)⟩)⟩)⟩)⟩)⟩)⟩)⟩)⟩)⟩)⟩)
set_option maxRecDepth 20000 in
theorem ml_488 : Cond.code yX10_times cX10_times 2 none ∈ wsL_law := inr_21 _ (List.mem_of_getElem? (i := 8) rfl)
set_option maxRecDepth 20000 in
theorem ml_487 : Cond.selects RX10 yX10_times yX10_times ∈ wsL_law := inr_21 _ (List.mem_of_getElem? (i := 7) rfl)
set_option maxRecDepth 20000 in
theorem ml_486 : Cond.instanceMethod yX10_times ∈ wsL_law := inr_21 _ (List.mem_of_getElem? (i := 6) rfl)
set_option maxRecDepth 20000 in
theorem ml_485 : Cond.methodLink RX10 157 yX10_times ∈ wsL_law := inr_21 _ (List.mem_of_getElem? (i := 5) rfl)
set_option maxRecDepth 20000 in
theorem ml_484 : Cond.code yX10_sum cX10_sum 2 none ∈ wsL_law := inr_21 _ (List.mem_of_getElem? (i := 4) rfl)
set_option maxRecDepth 20000 in
theorem ml_483 : Cond.selects RX10 yX10_one yX10_one ∈ wsL_law := inr_21 _ (List.mem_of_getElem? (i := 3) rfl)
set_option maxRecDepth 20000 in
theorem ml_482 : Cond.instanceMethod yX10_one ∈ wsL_law := inr_21 _ (List.mem_of_getElem? (i := 2) rfl)
set_option maxRecDepth 20000 in
theorem ml_481 : Cond.methodLink RX10 142 yX10_one ∈ wsL_law := inr_21 _ (List.mem_of_getElem? (i := 1) rfl)
set_option maxRecDepth 20000 in
theorem ml_480 : Cond.code yX10_opens cX10_opens 2 none ∈ wsL_law := inr_21 _ (List.mem_of_getElem? (i := 0) rfl)
set_option maxRecDepth 20000 in
theorem ml_479 : Cond.code yX10_number cX10_number 3 none ∈ wsL_law := inr_20 _ (List.mem_of_getElem? (i := 23) rfl)
set_option maxRecDepth 20000 in
theorem ml_478 : Cond.selects RX10 yX10_number yX10_number ∈ wsL_law := inr_20 _ (List.mem_of_getElem? (i := 22) rfl)
set_option maxRecDepth 20000 in
theorem ml_477 : Cond.instanceMethod yX10_number ∈ wsL_law := inr_20 _ (List.mem_of_getElem? (i := 21) rfl)
set_option maxRecDepth 20000 in
theorem ml_476 : Cond.methodLink RX10 154 yX10_number ∈ wsL_law := inr_20 _ (List.mem_of_getElem? (i := 20) rfl)
set_option maxRecDepth 20000 in
theorem ml_475 : Cond.selects RX10 yX10_opens yX10_opens ∈ wsL_law := inr_20 _ (List.mem_of_getElem? (i := 19) rfl)
set_option maxRecDepth 20000 in
theorem ml_474 : Cond.instanceMethod yX10_opens ∈ wsL_law := inr_20 _ (List.mem_of_getElem? (i := 18) rfl)
set_option maxRecDepth 20000 in
theorem lp_wsX10_text_r3 : ∀ w ∈ wsX10_text_r3, w ∈ wsL_law := (List.forall_mem_cons.mpr ⟨ml_474, (List.forall_mem_cons.mpr ⟨ml_475, (List.forall_mem_cons.mpr ⟨ml_476, (List.forall_mem_cons.mpr ⟨ml_477, (List.forall_mem_cons.mpr ⟨ml_478, (List.forall_mem_cons.mpr ⟨ml_479, (List.forall_mem_cons.mpr ⟨ml_480, (List.forall_mem_cons.mpr ⟨ml_481, (List.forall_mem_cons.mpr ⟨ml_482, (List.forall_mem_cons.mpr ⟨ml_483, (List.forall_mem_cons.mpr ⟨ml_484, (List.forall_mem_cons.mpr ⟨ml_485, (List.forall_mem_cons.mpr ⟨ml_486, (List.forall_mem_cons.mpr ⟨ml_487, (List.forall_mem_cons.mpr ⟨ml_488, (fun _ h => absurd h List.not_mem_nil)⟩)⟩)⟩)⟩)⟩)⟩)⟩)⟩)⟩)⟩)⟩)⟩)⟩)⟩)⟩)
set_option maxRecDepth 20000 in
theorem lp_wsX10_text : ∀ w ∈ wsX10_text, w ∈ wsL_law := (List.forall_mem_cons.mpr ⟨ml_439, (List.forall_mem_append.mpr ⟨(List.forall_mem_append.mpr ⟨lp_wsX10_text_r1, (List.forall_mem_append.mpr ⟨lp_wsX10_text_r2, lp_wsX10_text_r3⟩)⟩), inlX10⟩)⟩)
set_option maxRecDepth 20000 in
theorem ml_436 : Cond.methodLink RL 58 yX10_text ∈ wsL_law := inr_19 _ (List.mem_of_getElem? (i := 4) rfl)
set_option maxRecDepth 20000 in
theorem ml_437 : Cond.instanceMethod yX10_text ∈ wsL_law := inr_19 _ (List.mem_of_getElem? (i := 5) rfl)
set_option maxRecDepth 20000 in
theorem ml_438 : Cond.selects RX10 yX10_text yX10_text ∈ wsL_law := inr_19 _ (List.mem_of_getElem? (i := 6) rfl)
set_option maxRecDepth 20000 in
theorem gL_law_X10_text : GoodIn wsL_law (wsV RL 58 RX10 yX10_text wsX10_text) := goodIn_sub (List.forall_mem_append.mpr ⟨List.forall_mem_cons.mpr ⟨ml_436, List.forall_mem_cons.mpr ⟨ml_437, List.forall_mem_cons.mpr ⟨ml_438, List.forall_mem_cons.mpr ⟨ml_5, (fun _ h => absurd h List.not_mem_nil)⟩⟩⟩⟩, lp_wsX10_text⟩) (by decide +kernel)
set_option maxRecDepth 20000 in
theorem ml_492 : Cond.code yX9_untell cX9_untell 3 (some .int) ∈ wsL_law := inr_21 _ (List.mem_of_getElem? (i := 12) rfl)
set_option maxRecDepth 20000 in
theorem lp_wsX9_untell : ∀ w ∈ wsX9_untell, w ∈ wsL_law := (List.forall_mem_cons.mpr ⟨ml_492, (List.forall_mem_append.mpr ⟨(List.forall_mem_append.mpr ⟨(List.forall_mem_append.mpr ⟨(List.forall_mem_cons.mpr ⟨ml_16, (List.forall_mem_cons.mpr ⟨ml_128, (List.forall_mem_cons.mpr ⟨ml_129, (List.forall_mem_cons.mpr ⟨ml_2, (List.forall_mem_cons.mpr ⟨ml_130, (List.forall_mem_cons.mpr ⟨ml_131, (List.forall_mem_cons.mpr ⟨ml_132, (List.forall_mem_cons.mpr ⟨ml_133, (List.forall_mem_cons.mpr ⟨ml_134, (List.forall_mem_cons.mpr ⟨ml_37, (List.forall_mem_cons.mpr ⟨ml_135, (fun _ h => absurd h List.not_mem_nil)⟩)⟩)⟩)⟩)⟩)⟩)⟩)⟩)⟩)⟩)⟩), inlX9⟩), inlX0⟩), inlX1⟩)⟩)
set_option maxRecDepth 20000 in
theorem ml_489 : Cond.methodLink RL 59 yX9_untell ∈ wsL_law := inr_21 _ (List.mem_of_getElem? (i := 9) rfl)
set_option maxRecDepth 20000 in
theorem ml_490 : Cond.instanceMethod yX9_untell ∈ wsL_law := inr_21 _ (List.mem_of_getElem? (i := 10) rfl)
set_option maxRecDepth 20000 in
theorem ml_491 : Cond.selects RX9 yX9_untell yX9_untell ∈ wsL_law := inr_21 _ (List.mem_of_getElem? (i := 11) rfl)
set_option maxRecDepth 20000 in
theorem gL_law_X9_untell : GoodIn wsL_law (wsV RL 59 RX9 yX9_untell wsX9_untell) := goodIn_sub (List.forall_mem_append.mpr ⟨List.forall_mem_cons.mpr ⟨ml_489, List.forall_mem_cons.mpr ⟨ml_490, List.forall_mem_cons.mpr ⟨ml_491, List.forall_mem_cons.mpr ⟨ml_2, (fun _ h => absurd h List.not_mem_nil)⟩⟩⟩⟩, lp_wsX9_untell⟩) (by decide +kernel)
set_option maxRecDepth 20000 in
theorem ml_496 : Cond.code yX10_untell cX10_untell 2 (some .int) ∈ wsL_law := inr_21 _ (List.mem_of_getElem? (i := 16) rfl)
set_option maxRecDepth 20000 in
theorem lp_wsX10_untell : ∀ w ∈ wsX10_untell, w ∈ wsL_law := (List.forall_mem_cons.mpr ⟨ml_496, (List.forall_mem_append.mpr ⟨(List.forall_mem_cons.mpr ⟨ml_179, (List.forall_mem_cons.mpr ⟨ml_185, (List.forall_mem_cons.mpr ⟨ml_186, (List.forall_mem_cons.mpr ⟨ml_5, (List.forall_mem_cons.mpr ⟨ml_187, (List.forall_mem_cons.mpr ⟨ml_188, (List.forall_mem_cons.mpr ⟨ml_189, (List.forall_mem_cons.mpr ⟨ml_190, (List.forall_mem_cons.mpr ⟨ml_191, (List.forall_mem_cons.mpr ⟨ml_111, (List.forall_mem_cons.mpr ⟨ml_192, (List.forall_mem_cons.mpr ⟨ml_305, (List.forall_mem_cons.mpr ⟨ml_306, (List.forall_mem_cons.mpr ⟨ml_307, (List.forall_mem_cons.mpr ⟨ml_308, (List.forall_mem_cons.mpr ⟨ml_108, (fun _ h => absurd h List.not_mem_nil)⟩)⟩)⟩)⟩)⟩)⟩)⟩)⟩)⟩)⟩)⟩)⟩)⟩)⟩)⟩)⟩), inlX10⟩)⟩)
set_option maxRecDepth 20000 in
theorem ml_493 : Cond.methodLink RL 62 yX10_untell ∈ wsL_law := inr_21 _ (List.mem_of_getElem? (i := 13) rfl)
set_option maxRecDepth 20000 in
theorem ml_494 : Cond.instanceMethod yX10_untell ∈ wsL_law := inr_21 _ (List.mem_of_getElem? (i := 14) rfl)
set_option maxRecDepth 20000 in
theorem ml_495 : Cond.selects RX10 yX10_untell yX10_untell ∈ wsL_law := inr_21 _ (List.mem_of_getElem? (i := 15) rfl)
set_option maxRecDepth 20000 in
theorem gL_law_X10_untell : GoodIn wsL_law (wsV RL 62 RX10 yX10_untell wsX10_untell) := goodIn_sub (List.forall_mem_append.mpr ⟨List.forall_mem_cons.mpr ⟨ml_493, List.forall_mem_cons.mpr ⟨ml_494, List.forall_mem_cons.mpr ⟨ml_495, List.forall_mem_cons.mpr ⟨ml_5, (fun _ h => absurd h List.not_mem_nil)⟩⟩⟩⟩, lp_wsX10_untell⟩) (by decide +kernel)
set_option maxRecDepth 20000 in
theorem ml_500 : Cond.code yX9_law cX9_law 5 (some .int) ∈ wsL_law := inr_21 _ (List.mem_of_getElem? (i := 20) rfl)
set_option maxRecDepth 20000 in
theorem ml_501 : Cond.methodLink RX9 182 yX0_lawGives ∈ wsL_law := inr_21 _ (List.mem_of_getElem? (i := 21) rfl)
set_option maxRecDepth 20000 in
theorem lp_wsX9_law_r1 : ∀ w ∈ wsX9_law_r1, w ∈ wsL_law := (List.forall_mem_cons.mpr ⟨ml_16, (List.forall_mem_cons.mpr ⟨ml_128, (List.forall_mem_cons.mpr ⟨ml_129, (List.forall_mem_cons.mpr ⟨ml_2, (List.forall_mem_cons.mpr ⟨ml_130, (List.forall_mem_cons.mpr ⟨ml_501, (List.forall_mem_cons.mpr ⟨ml_240, (List.forall_mem_cons.mpr ⟨ml_241, (List.forall_mem_cons.mpr ⟨ml_15, (List.forall_mem_cons.mpr ⟨ml_242, (List.forall_mem_cons.mpr ⟨ml_56, (List.forall_mem_cons.mpr ⟨ml_243, (List.forall_mem_cons.mpr ⟨ml_244, (List.forall_mem_cons.mpr ⟨ml_245, (List.forall_mem_cons.mpr ⟨ml_55, (List.forall_mem_cons.mpr ⟨ml_246, (List.forall_mem_cons.mpr ⟨ml_73, (List.forall_mem_cons.mpr ⟨ml_72, (List.forall_mem_cons.mpr ⟨ml_247, (List.forall_mem_cons.mpr ⟨ml_248, (List.forall_mem_cons.mpr ⟨ml_249, (List.forall_mem_cons.mpr ⟨ml_50, (List.forall_mem_cons.mpr ⟨ml_250, (List.forall_mem_cons.mpr ⟨ml_251, (fun _ h => absurd h List.not_mem_nil)⟩)⟩)⟩)⟩)⟩)⟩)⟩)⟩)⟩)⟩)⟩)⟩)⟩)⟩)⟩)⟩)⟩)⟩)⟩)⟩)⟩)⟩)⟩)⟩)
set_option maxRecDepth 20000 in
theorem lp_wsX9_law_r2 : ∀ w ∈ wsX9_law_r2, w ∈ wsL_law := (List.forall_mem_cons.mpr ⟨ml_252, (List.forall_mem_cons.mpr ⟨ml_253, (List.forall_mem_cons.mpr ⟨ml_254, (List.forall_mem_cons.mpr ⟨ml_255, (List.forall_mem_cons.mpr ⟨ml_67, (List.forall_mem_cons.mpr ⟨ml_256, (List.forall_mem_cons.mpr ⟨ml_257, (List.forall_mem_cons.mpr ⟨ml_258, (List.forall_mem_cons.mpr ⟨ml_259, (List.forall_mem_cons.mpr ⟨ml_260, (List.forall_mem_cons.mpr ⟨ml_261, (List.forall_mem_cons.mpr ⟨ml_262, (List.forall_mem_cons.mpr ⟨ml_228, (List.forall_mem_cons.mpr ⟨ml_229, (List.forall_mem_cons.mpr ⟨ml_230, (List.forall_mem_cons.mpr ⟨ml_231, (List.forall_mem_cons.mpr ⟨ml_65, (List.forall_mem_cons.mpr ⟨ml_232, (List.forall_mem_cons.mpr ⟨ml_233, (List.forall_mem_cons.mpr ⟨ml_64, (List.forall_mem_cons.mpr ⟨ml_66, (List.forall_mem_cons.mpr ⟨ml_131, (List.forall_mem_cons.mpr ⟨ml_132, (List.forall_mem_cons.mpr ⟨ml_133, (fun _ h => absurd h List.not_mem_nil)⟩)⟩)⟩)⟩)⟩)⟩)⟩)⟩)⟩)⟩)⟩)⟩)⟩)⟩)⟩)⟩)⟩)⟩)⟩)⟩)⟩)⟩)⟩)⟩)
set_option maxRecDepth 20000 in
theorem lp_wsX9_law_r3 : ∀ w ∈ wsX9_law_r3, w ∈ wsL_law := (List.forall_mem_cons.mpr ⟨ml_134, (List.forall_mem_cons.mpr ⟨ml_37, (List.forall_mem_cons.mpr ⟨ml_135, (fun _ h => absurd h List.not_mem_nil)⟩)⟩)⟩)
set_option maxRecDepth 20000 in
theorem lp_wsX9_law : ∀ w ∈ wsX9_law, w ∈ wsL_law := (List.forall_mem_cons.mpr ⟨ml_500, (List.forall_mem_append.mpr ⟨(List.forall_mem_append.mpr ⟨(List.forall_mem_append.mpr ⟨(List.forall_mem_append.mpr ⟨(List.forall_mem_append.mpr ⟨lp_wsX9_law_r1, (List.forall_mem_append.mpr ⟨lp_wsX9_law_r2, lp_wsX9_law_r3⟩)⟩), inlX9⟩), inlX0⟩), inlX1⟩), inlX6⟩)⟩)
set_option maxRecDepth 20000 in
theorem ml_497 : Cond.methodLink RL 63 yX9_law ∈ wsL_law := inr_21 _ (List.mem_of_getElem? (i := 17) rfl)
set_option maxRecDepth 20000 in
theorem ml_498 : Cond.instanceMethod yX9_law ∈ wsL_law := inr_21 _ (List.mem_of_getElem? (i := 18) rfl)
set_option maxRecDepth 20000 in
theorem ml_499 : Cond.selects RX9 yX9_law yX9_law ∈ wsL_law := inr_21 _ (List.mem_of_getElem? (i := 19) rfl)
set_option maxRecDepth 20000 in
theorem gL_law_X9_law : GoodIn wsL_law (wsV RL 63 RX9 yX9_law wsX9_law) := goodIn_sub (List.forall_mem_append.mpr ⟨List.forall_mem_cons.mpr ⟨ml_497, List.forall_mem_cons.mpr ⟨ml_498, List.forall_mem_cons.mpr ⟨ml_499, List.forall_mem_cons.mpr ⟨ml_2, (fun _ h => absurd h List.not_mem_nil)⟩⟩⟩⟩, lp_wsX9_law⟩) (by decide +kernel)
set_option maxRecDepth 20000 in
theorem ml_505 : Cond.code yX10_law cX10_law 5 (some .int) ∈ wsL_law := inr_22 _ (List.mem_of_getElem? (i := 1) rfl)
set_option maxRecDepth 20000 in
theorem lp_wsX10_law_r1 : ∀ w ∈ wsX10_law_r1, w ∈ wsL_law := (List.forall_mem_cons.mpr ⟨ml_179, (List.forall_mem_cons.mpr ⟨ml_185, (List.forall_mem_cons.mpr ⟨ml_186, (List.forall_mem_cons.mpr ⟨ml_5, (List.forall_mem_cons.mpr ⟨ml_187, (List.forall_mem_cons.mpr ⟨ml_286, (List.forall_mem_cons.mpr ⟨ml_287, (List.forall_mem_cons.mpr ⟨ml_288, (List.forall_mem_cons.mpr ⟨ml_289, (List.forall_mem_cons.mpr ⟨ml_117, (List.forall_mem_cons.mpr ⟨ml_108, (List.forall_mem_cons.mpr ⟨ml_290, (List.forall_mem_cons.mpr ⟨ml_291, (List.forall_mem_cons.mpr ⟨ml_292, (List.forall_mem_cons.mpr ⟨ml_293, (List.forall_mem_cons.mpr ⟨ml_118, (List.forall_mem_cons.mpr ⟨ml_294, (List.forall_mem_cons.mpr ⟨ml_295, (List.forall_mem_cons.mpr ⟨ml_296, (List.forall_mem_cons.mpr ⟨ml_279, (List.forall_mem_cons.mpr ⟨ml_280, (List.forall_mem_cons.mpr ⟨ml_281, (List.forall_mem_cons.mpr ⟨ml_188, (List.forall_mem_cons.mpr ⟨ml_189, (fun _ h => absurd h List.not_mem_nil)⟩)⟩)⟩)⟩)⟩)⟩)⟩)⟩)⟩)⟩)⟩)⟩)⟩)⟩)⟩)⟩)⟩)⟩)⟩)⟩)⟩)⟩)⟩)⟩)
set_option maxRecDepth 20000 in
theorem lp_wsX10_law_r2 : ∀ w ∈ wsX10_law_r2, w ∈ wsL_law := (List.forall_mem_cons.mpr ⟨ml_190, (List.forall_mem_cons.mpr ⟨ml_191, (List.forall_mem_cons.mpr ⟨ml_111, (List.forall_mem_cons.mpr ⟨ml_192, (fun _ h => absurd h List.not_mem_nil)⟩)⟩)⟩)⟩)
set_option maxRecDepth 20000 in
theorem lp_wsX10_law : ∀ w ∈ wsX10_law, w ∈ wsL_law := (List.forall_mem_cons.mpr ⟨ml_505, (List.forall_mem_append.mpr ⟨(List.forall_mem_append.mpr ⟨lp_wsX10_law_r1, lp_wsX10_law_r2⟩), inlX10⟩)⟩)
set_option maxRecDepth 20000 in
theorem ml_502 : Cond.methodLink RL 66 yX10_law ∈ wsL_law := inr_21 _ (List.mem_of_getElem? (i := 22) rfl)
set_option maxRecDepth 20000 in
theorem ml_503 : Cond.instanceMethod yX10_law ∈ wsL_law := inr_21 _ (List.mem_of_getElem? (i := 23) rfl)
set_option maxRecDepth 20000 in
theorem ml_504 : Cond.selects RX10 yX10_law yX10_law ∈ wsL_law := inr_22 _ (List.mem_of_getElem? (i := 0) rfl)
set_option maxRecDepth 20000 in
theorem gL_law_X10_law : GoodIn wsL_law (wsV RL 66 RX10 yX10_law wsX10_law) := goodIn_sub (List.forall_mem_append.mpr ⟨List.forall_mem_cons.mpr ⟨ml_502, List.forall_mem_cons.mpr ⟨ml_503, List.forall_mem_cons.mpr ⟨ml_504, List.forall_mem_cons.mpr ⟨ml_5, (fun _ h => absurd h List.not_mem_nil)⟩⟩⟩⟩, lp_wsX10_law⟩) (by decide +kernel)
set_option maxRecDepth 20000 in
theorem ml_509 : Cond.code yX9_days cX9_days 3 (some .int) ∈ wsL_law := inr_22 _ (List.mem_of_getElem? (i := 5) rfl)
set_option maxRecDepth 20000 in
theorem ml_514 : Cond.methodLink RX0 127 Lib.Math.max.name ∈ wsL_law := inr_22 _ (List.mem_of_getElem? (i := 10) rfl)
set_option maxRecDepth 20000 in
theorem ml_513 : Cond.code yX0_passDay cX0_passDay 2 none ∈ wsL_law := inr_22 _ (List.mem_of_getElem? (i := 9) rfl)
set_option maxRecDepth 20000 in
theorem ml_512 : Cond.selects RX0 yX0_passDay yX0_passDay ∈ wsL_law := inr_22 _ (List.mem_of_getElem? (i := 8) rfl)
set_option maxRecDepth 20000 in
theorem ml_511 : Cond.instanceMethod yX0_passDay ∈ wsL_law := inr_22 _ (List.mem_of_getElem? (i := 7) rfl)
set_option maxRecDepth 20000 in
theorem ml_510 : Cond.methodLink RX9 185 yX0_passDay ∈ wsL_law := inr_22 _ (List.mem_of_getElem? (i := 6) rfl)
set_option maxRecDepth 20000 in
theorem lp_wsX9_days : ∀ w ∈ wsX9_days, w ∈ wsL_law := (List.forall_mem_cons.mpr ⟨ml_509, (List.forall_mem_append.mpr ⟨(List.forall_mem_append.mpr ⟨(List.forall_mem_cons.mpr ⟨ml_16, (List.forall_mem_cons.mpr ⟨ml_128, (List.forall_mem_cons.mpr ⟨ml_129, (List.forall_mem_cons.mpr ⟨ml_2, (List.forall_mem_cons.mpr ⟨ml_130, (List.forall_mem_cons.mpr ⟨ml_131, (List.forall_mem_cons.mpr ⟨ml_132, (List.forall_mem_cons.mpr ⟨ml_133, (List.forall_mem_cons.mpr ⟨ml_134, (List.forall_mem_cons.mpr ⟨ml_37, (List.forall_mem_cons.mpr ⟨ml_135, (List.forall_mem_cons.mpr ⟨ml_510, (List.forall_mem_cons.mpr ⟨ml_511, (List.forall_mem_cons.mpr ⟨ml_512, (List.forall_mem_cons.mpr ⟨ml_15, (List.forall_mem_cons.mpr ⟨ml_513, (List.forall_mem_cons.mpr ⟨ml_148, (List.forall_mem_cons.mpr ⟨ml_46, (List.forall_mem_cons.mpr ⟨ml_514, (List.forall_mem_cons.mpr ⟨ml_64, (List.forall_mem_cons.mpr ⟨ml_65, (List.forall_mem_cons.mpr ⟨ml_66, (fun _ h => absurd h List.not_mem_nil)⟩)⟩)⟩)⟩)⟩)⟩)⟩)⟩)⟩)⟩)⟩)⟩)⟩)⟩)⟩)⟩)⟩)⟩)⟩)⟩)⟩)⟩), inlX9⟩), inlX0⟩)⟩)
set_option maxRecDepth 20000 in
theorem ml_506 : Cond.methodLink RL 67 yX9_days ∈ wsL_law := inr_22 _ (List.mem_of_getElem? (i := 2) rfl)
set_option maxRecDepth 20000 in
theorem ml_507 : Cond.instanceMethod yX9_days ∈ wsL_law := inr_22 _ (List.mem_of_getElem? (i := 3) rfl)
set_option maxRecDepth 20000 in
theorem ml_508 : Cond.selects RX9 yX9_days yX9_days ∈ wsL_law := inr_22 _ (List.mem_of_getElem? (i := 4) rfl)
set_option maxRecDepth 20000 in
theorem gL_law_X9_days : GoodIn wsL_law (wsV RL 67 RX9 yX9_days wsX9_days) := goodIn_sub (List.forall_mem_append.mpr ⟨List.forall_mem_cons.mpr ⟨ml_506, List.forall_mem_cons.mpr ⟨ml_507, List.forall_mem_cons.mpr ⟨ml_508, List.forall_mem_cons.mpr ⟨ml_2, (fun _ h => absurd h List.not_mem_nil)⟩⟩⟩⟩, lp_wsX9_days⟩) (by decide +kernel)
set_option maxRecDepth 20000 in
theorem ml_518 : Cond.code yX10_days cX10_days 3 (some .int) ∈ wsL_law := inr_22 _ (List.mem_of_getElem? (i := 14) rfl)
set_option maxRecDepth 20000 in
theorem ml_522 : Cond.code yX10_goes cX10_goes 3 none ∈ wsL_law := inr_22 _ (List.mem_of_getElem? (i := 18) rfl)
set_option maxRecDepth 20000 in
theorem ml_521 : Cond.selects RX10 yX10_goes yX10_goes ∈ wsL_law := inr_22 _ (List.mem_of_getElem? (i := 17) rfl)
set_option maxRecDepth 20000 in
theorem ml_520 : Cond.instanceMethod yX10_goes ∈ wsL_law := inr_22 _ (List.mem_of_getElem? (i := 16) rfl)
set_option maxRecDepth 20000 in
theorem ml_519 : Cond.methodLink RX10 175 yX10_goes ∈ wsL_law := inr_22 _ (List.mem_of_getElem? (i := 15) rfl)
set_option maxRecDepth 20000 in
theorem lp_wsX10_days : ∀ w ∈ wsX10_days, w ∈ wsL_law := (List.forall_mem_cons.mpr ⟨ml_518, (List.forall_mem_append.mpr ⟨(List.forall_mem_cons.mpr ⟨ml_179, (List.forall_mem_cons.mpr ⟨ml_108, (List.forall_mem_cons.mpr ⟨ml_181, (List.forall_mem_cons.mpr ⟨ml_185, (List.forall_mem_cons.mpr ⟨ml_186, (List.forall_mem_cons.mpr ⟨ml_5, (List.forall_mem_cons.mpr ⟨ml_187, (List.forall_mem_cons.mpr ⟨ml_188, (List.forall_mem_cons.mpr ⟨ml_189, (List.forall_mem_cons.mpr ⟨ml_190, (List.forall_mem_cons.mpr ⟨ml_191, (List.forall_mem_cons.mpr ⟨ml_111, (List.forall_mem_cons.mpr ⟨ml_192, (List.forall_mem_cons.mpr ⟨ml_519, (List.forall_mem_cons.mpr ⟨ml_520, (List.forall_mem_cons.mpr ⟨ml_521, (List.forall_mem_cons.mpr ⟨ml_522, (fun _ h => absurd h List.not_mem_nil)⟩)⟩)⟩)⟩)⟩)⟩)⟩)⟩)⟩)⟩)⟩)⟩)⟩)⟩)⟩)⟩)⟩), inlX10⟩)⟩)
set_option maxRecDepth 20000 in
theorem ml_515 : Cond.methodLink RL 70 yX10_days ∈ wsL_law := inr_22 _ (List.mem_of_getElem? (i := 11) rfl)
set_option maxRecDepth 20000 in
theorem ml_516 : Cond.instanceMethod yX10_days ∈ wsL_law := inr_22 _ (List.mem_of_getElem? (i := 12) rfl)
set_option maxRecDepth 20000 in
theorem ml_517 : Cond.selects RX10 yX10_days yX10_days ∈ wsL_law := inr_22 _ (List.mem_of_getElem? (i := 13) rfl)
set_option maxRecDepth 20000 in
theorem gL_law_X10_days : GoodIn wsL_law (wsV RL 70 RX10 yX10_days wsX10_days) := goodIn_sub (List.forall_mem_append.mpr ⟨List.forall_mem_cons.mpr ⟨ml_515, List.forall_mem_cons.mpr ⟨ml_516, List.forall_mem_cons.mpr ⟨ml_517, List.forall_mem_cons.mpr ⟨ml_5, (fun _ h => absurd h List.not_mem_nil)⟩⟩⟩⟩, lp_wsX10_days⟩) (by decide +kernel)
set_option maxRecDepth 20000 in
theorem ml_526 : Cond.code yX9_loose cX9_loose 4 (some .int) ∈ wsL_law := inr_22 _ (List.mem_of_getElem? (i := 22) rfl)
set_option maxRecDepth 20000 in
theorem ml_535 : Cond.constant RX0 153 (1103515245) ∈ wsL_law := inr_23 _ (List.mem_of_getElem? (i := 7) rfl)
set_option maxRecDepth 20000 in
theorem ml_534 : Cond.code yX0_draw cX0_draw 1 (some .int) ∈ wsL_law := inr_23 _ (List.mem_of_getElem? (i := 6) rfl)
set_option maxRecDepth 20000 in
theorem ml_533 : Cond.selects RX0 yX0_draw yX0_draw ∈ wsL_law := inr_23 _ (List.mem_of_getElem? (i := 5) rfl)
set_option maxRecDepth 20000 in
theorem ml_532 : Cond.instanceMethod yX0_draw ∈ wsL_law := inr_23 _ (List.mem_of_getElem? (i := 4) rfl)
set_option maxRecDepth 20000 in
theorem ml_531 : Cond.methodLink RX0 130 yX0_draw ∈ wsL_law := inr_23 _ (List.mem_of_getElem? (i := 3) rfl)
set_option maxRecDepth 20000 in
theorem ml_530 : Cond.code yX0_passDayByDraws cX0_passDayByDraws 5 (some .int) ∈ wsL_law := inr_23 _ (List.mem_of_getElem? (i := 2) rfl)
set_option maxRecDepth 20000 in
theorem ml_529 : Cond.selects RX0 yX0_passDayByDraws yX0_passDayByDraws ∈ wsL_law := inr_23 _ (List.mem_of_getElem? (i := 1) rfl)
set_option maxRecDepth 20000 in
theorem ml_528 : Cond.instanceMethod yX0_passDayByDraws ∈ wsL_law := inr_23 _ (List.mem_of_getElem? (i := 0) rfl)
set_option maxRecDepth 20000 in
theorem ml_527 : Cond.methodLink RX9 188 yX0_passDayByDraws ∈ wsL_law := inr_22 _ (List.mem_of_getElem? (i := 23) rfl)
set_option maxRecDepth 20000 in
theorem lp_wsX9_loose_r1 : ∀ w ∈ wsX9_loose_r1, w ∈ wsL_law := (List.forall_mem_cons.mpr ⟨ml_16, (List.forall_mem_cons.mpr ⟨ml_128, (List.forall_mem_cons.mpr ⟨ml_129, (List.forall_mem_cons.mpr ⟨ml_2, (List.forall_mem_cons.mpr ⟨ml_130, (List.forall_mem_cons.mpr ⟨ml_131, (List.forall_mem_cons.mpr ⟨ml_132, (List.forall_mem_cons.mpr ⟨ml_133, (List.forall_mem_cons.mpr ⟨ml_134, (List.forall_mem_cons.mpr ⟨ml_37, (List.forall_mem_cons.mpr ⟨ml_135, (List.forall_mem_cons.mpr ⟨ml_527, (List.forall_mem_cons.mpr ⟨ml_528, (List.forall_mem_cons.mpr ⟨ml_529, (List.forall_mem_cons.mpr ⟨ml_15, (List.forall_mem_cons.mpr ⟨ml_530, (List.forall_mem_cons.mpr ⟨ml_147, (List.forall_mem_cons.mpr ⟨ml_148, (List.forall_mem_cons.mpr ⟨ml_531, (List.forall_mem_cons.mpr ⟨ml_532, (List.forall_mem_cons.mpr ⟨ml_533, (List.forall_mem_cons.mpr ⟨ml_534, (List.forall_mem_cons.mpr ⟨ml_47, (List.forall_mem_cons.mpr ⟨ml_535, (fun _ h => absurd h List.not_mem_nil)⟩)⟩)⟩)⟩)⟩)⟩)⟩)⟩)⟩)⟩)⟩)⟩)⟩)⟩)⟩)⟩)⟩)⟩)⟩)⟩)⟩)⟩)⟩)⟩)
set_option maxRecDepth 20000 in
theorem ml_536 : Cond.methodLink RX0 134 yX0_mayGo ∈ wsL_law := inr_23 _ (List.mem_of_getElem? (i := 8) rfl)
set_option maxRecDepth 20000 in
theorem lp_wsX9_loose_r2 : ∀ w ∈ wsX9_loose_r2, w ∈ wsL_law := (List.forall_mem_cons.mpr ⟨ml_536, (List.forall_mem_cons.mpr ⟨ml_221, (List.forall_mem_cons.mpr ⟨ml_222, (List.forall_mem_cons.mpr ⟨ml_223, (List.forall_mem_cons.mpr ⟨ml_45, (List.forall_mem_cons.mpr ⟨ml_149, (List.forall_mem_cons.mpr ⟨ml_150, (List.forall_mem_cons.mpr ⟨ml_151, (List.forall_mem_cons.mpr ⟨ml_152, (List.forall_mem_cons.mpr ⟨ml_58, (List.forall_mem_cons.mpr ⟨ml_153, (List.forall_mem_cons.mpr ⟨ml_154, (List.forall_mem_cons.mpr ⟨ml_155, (List.forall_mem_cons.mpr ⟨ml_156, (List.forall_mem_cons.mpr ⟨ml_157, (List.forall_mem_cons.mpr ⟨ml_64, (List.forall_mem_cons.mpr ⟨ml_65, (List.forall_mem_cons.mpr ⟨ml_66, (List.forall_mem_cons.mpr ⟨ml_158, (List.forall_mem_cons.mpr ⟨ml_159, (List.forall_mem_cons.mpr ⟨ml_160, (List.forall_mem_cons.mpr ⟨ml_161, (List.forall_mem_cons.mpr ⟨ml_162, (List.forall_mem_cons.mpr ⟨ml_163, (fun _ h => absurd h List.not_mem_nil)⟩)⟩)⟩)⟩)⟩)⟩)⟩)⟩)⟩)⟩)⟩)⟩)⟩)⟩)⟩)⟩)⟩)⟩)⟩)⟩)⟩)⟩)⟩)⟩)
set_option maxRecDepth 20000 in
theorem ml_537 : Cond.methodLink RX0 138 yX0_wipeLine ∈ wsL_law := inr_23 _ (List.mem_of_getElem? (i := 9) rfl)
set_option maxRecDepth 20000 in
theorem lp_wsX9_loose_r3 : ∀ w ∈ wsX9_loose_r3, w ∈ wsL_law := (List.forall_mem_cons.mpr ⟨ml_537, (List.forall_mem_cons.mpr ⟨ml_335, (List.forall_mem_cons.mpr ⟨ml_336, (List.forall_mem_cons.mpr ⟨ml_337, (List.forall_mem_cons.mpr ⟨ml_338, (List.forall_mem_cons.mpr ⟨ml_339, (List.forall_mem_cons.mpr ⟨ml_340, (List.forall_mem_cons.mpr ⟨ml_231, (List.forall_mem_cons.mpr ⟨ml_232, (List.forall_mem_cons.mpr ⟨ml_341, (List.forall_mem_cons.mpr ⟨ml_235, (List.forall_mem_cons.mpr ⟨ml_236, (List.forall_mem_cons.mpr ⟨ml_237, (List.forall_mem_cons.mpr ⟨ml_238, (List.forall_mem_cons.mpr ⟨ml_225, (List.forall_mem_cons.mpr ⟨ml_226, (List.forall_mem_cons.mpr ⟨ml_227, (List.forall_mem_cons.mpr ⟨ml_174, (List.forall_mem_cons.mpr ⟨ml_228, (List.forall_mem_cons.mpr ⟨ml_229, (List.forall_mem_cons.mpr ⟨ml_230, (List.forall_mem_cons.mpr ⟨ml_233, (List.forall_mem_cons.mpr ⟨ml_239, (List.forall_mem_cons.mpr ⟨ml_240, (fun _ h => absurd h List.not_mem_nil)⟩)⟩)⟩)⟩)⟩)⟩)⟩)⟩)⟩)⟩)⟩)⟩)⟩)⟩)⟩)⟩)⟩)⟩)⟩)⟩)⟩)⟩)⟩)⟩)
set_option maxRecDepth 20000 in
theorem lp_wsX9_loose_r4 : ∀ w ∈ wsX9_loose_r4, w ∈ wsL_law := (List.forall_mem_cons.mpr ⟨ml_241, (List.forall_mem_cons.mpr ⟨ml_242, (List.forall_mem_cons.mpr ⟨ml_56, (List.forall_mem_cons.mpr ⟨ml_243, (List.forall_mem_cons.mpr ⟨ml_244, (List.forall_mem_cons.mpr ⟨ml_245, (List.forall_mem_cons.mpr ⟨ml_55, (List.forall_mem_cons.mpr ⟨ml_246, (List.forall_mem_cons.mpr ⟨ml_73, (List.forall_mem_cons.mpr ⟨ml_72, (List.forall_mem_cons.mpr ⟨ml_247, (List.forall_mem_cons.mpr ⟨ml_248, (List.forall_mem_cons.mpr ⟨ml_249, (List.forall_mem_cons.mpr ⟨ml_50, (List.forall_mem_cons.mpr ⟨ml_250, (List.forall_mem_cons.mpr ⟨ml_251, (List.forall_mem_cons.mpr ⟨ml_252, (List.forall_mem_cons.mpr ⟨ml_253, (List.forall_mem_cons.mpr ⟨ml_254, (List.forall_mem_cons.mpr ⟨ml_255, (List.forall_mem_cons.mpr ⟨ml_67, (List.forall_mem_cons.mpr ⟨ml_256, (List.forall_mem_cons.mpr ⟨ml_257, (List.forall_mem_cons.mpr ⟨ml_258, (fun _ h => absurd h List.not_mem_nil)⟩)⟩)⟩)⟩)⟩)⟩)⟩)⟩)⟩)⟩)⟩)⟩)⟩)⟩)⟩)⟩)⟩)⟩)⟩)⟩)⟩)⟩)⟩)⟩)
set_option maxRecDepth 20000 in
theorem ml_541 : Cond.methodLink RX0 147 yX0_addLine ∈ wsL_law := inr_23 _ (List.mem_of_getElem? (i := 13) rfl)
set_option maxRecDepth 20000 in
theorem ml_540 : Cond.code yX9_isOf cX9_isOf 2 (some .boolean) ∈ wsL_law := inr_23 _ (List.mem_of_getElem? (i := 12) rfl)
set_option maxRecDepth 20000 in
theorem ml_539 : Cond.static yX9_isOf ∈ wsL_law := inr_23 _ (List.mem_of_getElem? (i := 11) rfl)
set_option maxRecDepth 20000 in
theorem ml_538 : Cond.methodLink RX0 141 yX0_taken ∈ wsL_law := inr_23 _ (List.mem_of_getElem? (i := 10) rfl)
set_option maxRecDepth 20000 in
theorem lp_wsX9_loose_r5 : ∀ w ∈ wsX9_loose_r5, w ∈ wsL_law := (List.forall_mem_cons.mpr ⟨ml_259, (List.forall_mem_cons.mpr ⟨ml_260, (List.forall_mem_cons.mpr ⟨ml_261, (List.forall_mem_cons.mpr ⟨ml_262, (List.forall_mem_cons.mpr ⟨ml_538, (List.forall_mem_cons.mpr ⟨ml_140, (List.forall_mem_cons.mpr ⟨ml_141, (List.forall_mem_cons.mpr ⟨ml_142, (List.forall_mem_cons.mpr ⟨ml_143, (List.forall_mem_cons.mpr ⟨ml_144, (List.forall_mem_cons.mpr ⟨ml_145, (List.forall_mem_cons.mpr ⟨ml_146, (List.forall_mem_cons.mpr ⟨ml_539, (List.forall_mem_cons.mpr ⟨ml_540, (List.forall_mem_cons.mpr ⟨ml_541, (List.forall_mem_cons.mpr ⟨ml_165, (List.forall_mem_cons.mpr ⟨ml_166, (List.forall_mem_cons.mpr ⟨ml_167, (List.forall_mem_cons.mpr ⟨ml_168, (List.forall_mem_cons.mpr ⟨ml_169, (List.forall_mem_cons.mpr ⟨ml_170, (List.forall_mem_cons.mpr ⟨ml_171, (List.forall_mem_cons.mpr ⟨ml_172, (List.forall_mem_cons.mpr ⟨ml_173, (fun _ h => absurd h List.not_mem_nil)⟩)⟩)⟩)⟩)⟩)⟩)⟩)⟩)⟩)⟩)⟩)⟩)⟩)⟩)⟩)⟩)⟩)⟩)⟩)⟩)⟩)⟩)⟩)⟩)
set_option maxRecDepth 20000 in
theorem ml_542 : Cond.methodLink RX0 150 yX0_passDay ∈ wsL_law := inr_23 _ (List.mem_of_getElem? (i := 14) rfl)
set_option maxRecDepth 20000 in
theorem lp_wsX9_loose_r6 : ∀ w ∈ wsX9_loose_r6, w ∈ wsL_law := (List.forall_mem_cons.mpr ⟨ml_542, (List.forall_mem_cons.mpr ⟨ml_511, (List.forall_mem_cons.mpr ⟨ml_512, (List.forall_mem_cons.mpr ⟨ml_513, (List.forall_mem_cons.mpr ⟨ml_46, (List.forall_mem_cons.mpr ⟨ml_514, (fun _ h => absurd h List.not_mem_nil)⟩)⟩)⟩)⟩)⟩)⟩)
set_option maxRecDepth 20000 in
theorem lp_wsX9_loose : ∀ w ∈ wsX9_loose, w ∈ wsL_law := (List.forall_mem_cons.mpr ⟨ml_526, (List.forall_mem_append.mpr ⟨(List.forall_mem_append.mpr ⟨(List.forall_mem_append.mpr ⟨(List.forall_mem_append.mpr ⟨(List.forall_mem_append.mpr ⟨(List.forall_mem_append.mpr ⟨lp_wsX9_loose_r1, (List.forall_mem_append.mpr ⟨lp_wsX9_loose_r2, (List.forall_mem_append.mpr ⟨lp_wsX9_loose_r3, (List.forall_mem_append.mpr ⟨lp_wsX9_loose_r4, (List.forall_mem_append.mpr ⟨lp_wsX9_loose_r5, lp_wsX9_loose_r6⟩)⟩)⟩)⟩)⟩), inlX9⟩), inlX0⟩), inlX2⟩), inlX1⟩), inlX6⟩)⟩)
set_option maxRecDepth 20000 in
theorem ml_523 : Cond.methodLink RL 71 yX9_loose ∈ wsL_law := inr_22 _ (List.mem_of_getElem? (i := 19) rfl)
set_option maxRecDepth 20000 in
theorem ml_524 : Cond.instanceMethod yX9_loose ∈ wsL_law := inr_22 _ (List.mem_of_getElem? (i := 20) rfl)
set_option maxRecDepth 20000 in
theorem ml_525 : Cond.selects RX9 yX9_loose yX9_loose ∈ wsL_law := inr_22 _ (List.mem_of_getElem? (i := 21) rfl)
set_option maxRecDepth 20000 in
theorem gL_law_X9_loose : GoodIn wsL_law (wsV RL 71 RX9 yX9_loose wsX9_loose) := goodIn_sub (List.forall_mem_append.mpr ⟨List.forall_mem_cons.mpr ⟨ml_523, List.forall_mem_cons.mpr ⟨ml_524, List.forall_mem_cons.mpr ⟨ml_525, List.forall_mem_cons.mpr ⟨ml_2, (fun _ h => absurd h List.not_mem_nil)⟩⟩⟩⟩, lp_wsX9_loose⟩) (by decide +kernel)
set_option maxRecDepth 20000 in
theorem ml_546 : Cond.code yX10_loose cX10_loose 4 (some .int) ∈ wsL_law := inr_23 _ (List.mem_of_getElem? (i := 18) rfl)
set_option maxRecDepth 20000 in
theorem ml_555 : Cond.constant RX10 178 (1103515245) ∈ wsL_law := inr_24 _ (List.mem_of_getElem? (i := 3) rfl)
set_option maxRecDepth 20000 in
theorem ml_554 : Cond.code yX10_draw cX10_draw 1 (some .int) ∈ wsL_law := inr_24 _ (List.mem_of_getElem? (i := 2) rfl)
set_option maxRecDepth 20000 in
theorem ml_553 : Cond.selects RX10 yX10_draw yX10_draw ∈ wsL_law := inr_24 _ (List.mem_of_getElem? (i := 1) rfl)
set_option maxRecDepth 20000 in
theorem ml_552 : Cond.instanceMethod yX10_draw ∈ wsL_law := inr_24 _ (List.mem_of_getElem? (i := 0) rfl)
set_option maxRecDepth 20000 in
theorem ml_551 : Cond.methodLink RX10 179 yX10_draw ∈ wsL_law := inr_23 _ (List.mem_of_getElem? (i := 23) rfl)
set_option maxRecDepth 20000 in
theorem ml_550 : Cond.code yX10_drawn cX10_drawn 5 (some .int) ∈ wsL_law := inr_23 _ (List.mem_of_getElem? (i := 22) rfl)
set_option maxRecDepth 20000 in
theorem ml_549 : Cond.selects RX10 yX10_drawn yX10_drawn ∈ wsL_law := inr_23 _ (List.mem_of_getElem? (i := 21) rfl)
set_option maxRecDepth 20000 in
theorem ml_548 : Cond.instanceMethod yX10_drawn ∈ wsL_law := inr_23 _ (List.mem_of_getElem? (i := 20) rfl)
set_option maxRecDepth 20000 in
theorem ml_547 : Cond.methodLink RX10 182 yX10_drawn ∈ wsL_law := inr_23 _ (List.mem_of_getElem? (i := 19) rfl)
set_option maxRecDepth 20000 in
theorem lp_wsX10_loose_r1 : ∀ w ∈ wsX10_loose_r1, w ∈ wsL_law := (List.forall_mem_cons.mpr ⟨ml_179, (List.forall_mem_cons.mpr ⟨ml_108, (List.forall_mem_cons.mpr ⟨ml_181, (List.forall_mem_cons.mpr ⟨ml_185, (List.forall_mem_cons.mpr ⟨ml_186, (List.forall_mem_cons.mpr ⟨ml_5, (List.forall_mem_cons.mpr ⟨ml_187, (List.forall_mem_cons.mpr ⟨ml_188, (List.forall_mem_cons.mpr ⟨ml_189, (List.forall_mem_cons.mpr ⟨ml_190, (List.forall_mem_cons.mpr ⟨ml_191, (List.forall_mem_cons.mpr ⟨ml_111, (List.forall_mem_cons.mpr ⟨ml_192, (List.forall_mem_cons.mpr ⟨ml_547, (List.forall_mem_cons.mpr ⟨ml_548, (List.forall_mem_cons.mpr ⟨ml_549, (List.forall_mem_cons.mpr ⟨ml_550, (List.forall_mem_cons.mpr ⟨ml_551, (List.forall_mem_cons.mpr ⟨ml_552, (List.forall_mem_cons.mpr ⟨ml_553, (List.forall_mem_cons.mpr ⟨ml_554, (List.forall_mem_cons.mpr ⟨ml_555, (List.forall_mem_cons.mpr ⟨ml_271, (List.forall_mem_cons.mpr ⟨ml_272, (fun _ h => absurd h List.not_mem_nil)⟩)⟩)⟩)⟩)⟩)⟩)⟩)⟩)⟩)⟩)⟩)⟩)⟩)⟩)⟩)⟩)⟩)⟩)⟩)⟩)⟩)⟩)⟩)⟩)
set_option maxRecDepth 20000 in
theorem lp_wsX10_loose_r2 : ∀ w ∈ wsX10_loose_r2, w ∈ wsL_law := (List.forall_mem_cons.mpr ⟨ml_273, (List.forall_mem_cons.mpr ⟨ml_274, (List.forall_mem_cons.mpr ⟨ml_200, (List.forall_mem_cons.mpr ⟨ml_201, (List.forall_mem_cons.mpr ⟨ml_202, (List.forall_mem_cons.mpr ⟨ml_203, (List.forall_mem_cons.mpr ⟨ml_346, (List.forall_mem_cons.mpr ⟨ml_347, (List.forall_mem_cons.mpr ⟨ml_348, (List.forall_mem_cons.mpr ⟨ml_349, (List.forall_mem_cons.mpr ⟨ml_350, (List.forall_mem_cons.mpr ⟨ml_282, (List.forall_mem_cons.mpr ⟨ml_283, (List.forall_mem_cons.mpr ⟨ml_284, (List.forall_mem_cons.mpr ⟨ml_285, (List.forall_mem_cons.mpr ⟨ml_275, (List.forall_mem_cons.mpr ⟨ml_276, (List.forall_mem_cons.mpr ⟨ml_277, (List.forall_mem_cons.mpr ⟨ml_278, (List.forall_mem_cons.mpr ⟨ml_279, (List.forall_mem_cons.mpr ⟨ml_280, (List.forall_mem_cons.mpr ⟨ml_281, (List.forall_mem_cons.mpr ⟨ml_286, (List.forall_mem_cons.mpr ⟨ml_287, (fun _ h => absurd h List.not_mem_nil)⟩)⟩)⟩)⟩)⟩)⟩)⟩)⟩)⟩)⟩)⟩)⟩)⟩)⟩)⟩)⟩)⟩)⟩)⟩)⟩)⟩)⟩)⟩)⟩)
set_option maxRecDepth 20000 in
theorem lp_wsX10_loose_r3 : ∀ w ∈ wsX10_loose_r3, w ∈ wsL_law := (List.forall_mem_cons.mpr ⟨ml_288, (List.forall_mem_cons.mpr ⟨ml_289, (List.forall_mem_cons.mpr ⟨ml_117, (List.forall_mem_cons.mpr ⟨ml_290, (List.forall_mem_cons.mpr ⟨ml_291, (List.forall_mem_cons.mpr ⟨ml_292, (List.forall_mem_cons.mpr ⟨ml_293, (List.forall_mem_cons.mpr ⟨ml_118, (List.forall_mem_cons.mpr ⟨ml_294, (List.forall_mem_cons.mpr ⟨ml_295, (List.forall_mem_cons.mpr ⟨ml_296, (List.forall_mem_cons.mpr ⟨ml_208, (List.forall_mem_cons.mpr ⟨ml_209, (List.forall_mem_cons.mpr ⟨ml_210, (List.forall_mem_cons.mpr ⟨ml_211, (List.forall_mem_cons.mpr ⟨ml_196, (List.forall_mem_cons.mpr ⟨ml_197, (List.forall_mem_cons.mpr ⟨ml_198, (List.forall_mem_cons.mpr ⟨ml_199, (List.forall_mem_cons.mpr ⟨ml_204, (List.forall_mem_cons.mpr ⟨ml_205, (List.forall_mem_cons.mpr ⟨ml_206, (List.forall_mem_cons.mpr ⟨ml_207, (List.forall_mem_cons.mpr ⟨ml_519, (fun _ h => absurd h List.not_mem_nil)⟩)⟩)⟩)⟩)⟩)⟩)⟩)⟩)⟩)⟩)⟩)⟩)⟩)⟩)⟩)⟩)⟩)⟩)⟩)⟩)⟩)⟩)⟩)⟩)
set_option maxRecDepth 20000 in
theorem lp_wsX10_loose_r4 : ∀ w ∈ wsX10_loose_r4, w ∈ wsL_law := (List.forall_mem_cons.mpr ⟨ml_520, (List.forall_mem_cons.mpr ⟨ml_521, (List.forall_mem_cons.mpr ⟨ml_522, (fun _ h => absurd h List.not_mem_nil)⟩)⟩)⟩)
set_option maxRecDepth 20000 in
theorem lp_wsX10_loose : ∀ w ∈ wsX10_loose, w ∈ wsL_law := (List.forall_mem_cons.mpr ⟨ml_546, (List.forall_mem_append.mpr ⟨(List.forall_mem_append.mpr ⟨lp_wsX10_loose_r1, (List.forall_mem_append.mpr ⟨lp_wsX10_loose_r2, (List.forall_mem_append.mpr ⟨lp_wsX10_loose_r3, lp_wsX10_loose_r4⟩)⟩)⟩), inlX10⟩)⟩)
set_option maxRecDepth 20000 in
theorem ml_543 : Cond.methodLink RL 74 yX10_loose ∈ wsL_law := inr_23 _ (List.mem_of_getElem? (i := 15) rfl)
set_option maxRecDepth 20000 in
theorem ml_544 : Cond.instanceMethod yX10_loose ∈ wsL_law := inr_23 _ (List.mem_of_getElem? (i := 16) rfl)
set_option maxRecDepth 20000 in
theorem ml_545 : Cond.selects RX10 yX10_loose yX10_loose ∈ wsL_law := inr_23 _ (List.mem_of_getElem? (i := 17) rfl)
set_option maxRecDepth 20000 in
theorem gL_law_X10_loose : GoodIn wsL_law (wsV RL 74 RX10 yX10_loose wsX10_loose) := goodIn_sub (List.forall_mem_append.mpr ⟨List.forall_mem_cons.mpr ⟨ml_543, List.forall_mem_cons.mpr ⟨ml_544, List.forall_mem_cons.mpr ⟨ml_545, List.forall_mem_cons.mpr ⟨ml_5, (fun _ h => absurd h List.not_mem_nil)⟩⟩⟩⟩, lp_wsX10_loose⟩) (by decide +kernel)
set_option maxRecDepth 20000 in
theorem ml_559 : Cond.code yX9_seed cX9_seed 3 (some .int) ∈ wsL_law := inr_24 _ (List.mem_of_getElem? (i := 7) rfl)
set_option maxRecDepth 20000 in
theorem lp_wsX9_seed : ∀ w ∈ wsX9_seed, w ∈ wsL_law := (List.forall_mem_cons.mpr ⟨ml_559, (List.forall_mem_append.mpr ⟨(List.forall_mem_append.mpr ⟨(List.forall_mem_cons.mpr ⟨ml_16, (fun _ h => absurd h List.not_mem_nil)⟩), inlX9⟩), inlX0⟩)⟩)
set_option maxRecDepth 20000 in
theorem ml_556 : Cond.methodLink RL 75 yX9_seed ∈ wsL_law := inr_24 _ (List.mem_of_getElem? (i := 4) rfl)
set_option maxRecDepth 20000 in
theorem ml_557 : Cond.instanceMethod yX9_seed ∈ wsL_law := inr_24 _ (List.mem_of_getElem? (i := 5) rfl)
set_option maxRecDepth 20000 in
theorem ml_558 : Cond.selects RX9 yX9_seed yX9_seed ∈ wsL_law := inr_24 _ (List.mem_of_getElem? (i := 6) rfl)
set_option maxRecDepth 20000 in
theorem gL_law_X9_seed : GoodIn wsL_law (wsV RL 75 RX9 yX9_seed wsX9_seed) := goodIn_sub (List.forall_mem_append.mpr ⟨List.forall_mem_cons.mpr ⟨ml_556, List.forall_mem_cons.mpr ⟨ml_557, List.forall_mem_cons.mpr ⟨ml_558, List.forall_mem_cons.mpr ⟨ml_2, (fun _ h => absurd h List.not_mem_nil)⟩⟩⟩⟩, lp_wsX9_seed⟩) (by decide +kernel)
set_option maxRecDepth 20000 in
theorem ml_563 : Cond.code yX10_seed cX10_seed 2 (some .int) ∈ wsL_law := inr_24 _ (List.mem_of_getElem? (i := 11) rfl)
set_option maxRecDepth 20000 in
theorem lp_wsX10_seed : ∀ w ∈ wsX10_seed, w ∈ wsL_law := (List.forall_mem_cons.mpr ⟨ml_563, (List.forall_mem_append.mpr ⟨(List.forall_mem_cons.mpr ⟨ml_305, (List.forall_mem_cons.mpr ⟨ml_306, (List.forall_mem_cons.mpr ⟨ml_307, (List.forall_mem_cons.mpr ⟨ml_5, (List.forall_mem_cons.mpr ⟨ml_308, (List.forall_mem_cons.mpr ⟨ml_108, (fun _ h => absurd h List.not_mem_nil)⟩)⟩)⟩)⟩)⟩)⟩), inlX10⟩)⟩)
set_option maxRecDepth 20000 in
theorem ml_560 : Cond.methodLink RL 78 yX10_seed ∈ wsL_law := inr_24 _ (List.mem_of_getElem? (i := 8) rfl)
set_option maxRecDepth 20000 in
theorem ml_561 : Cond.instanceMethod yX10_seed ∈ wsL_law := inr_24 _ (List.mem_of_getElem? (i := 9) rfl)
set_option maxRecDepth 20000 in
theorem ml_562 : Cond.selects RX10 yX10_seed yX10_seed ∈ wsL_law := inr_24 _ (List.mem_of_getElem? (i := 10) rfl)
set_option maxRecDepth 20000 in
theorem gL_law_X10_seed : GoodIn wsL_law (wsV RL 78 RX10 yX10_seed wsX10_seed) := goodIn_sub (List.forall_mem_append.mpr ⟨List.forall_mem_cons.mpr ⟨ml_560, List.forall_mem_cons.mpr ⟨ml_561, List.forall_mem_cons.mpr ⟨ml_562, List.forall_mem_cons.mpr ⟨ml_5, (fun _ h => absurd h List.not_mem_nil)⟩⟩⟩⟩, lp_wsX10_seed⟩) (by decide +kernel)
set_option maxRecDepth 20000 in
theorem ml_567 : Cond.code yX9_free cX9_free 4 (some .int) ∈ wsL_law := inr_24 _ (List.mem_of_getElem? (i := 15) rfl)
set_option maxRecDepth 20000 in
theorem lp_wsX9_free_r1 : ∀ w ∈ wsX9_free_r1, w ∈ wsL_law := (List.forall_mem_cons.mpr ⟨ml_16, (List.forall_mem_cons.mpr ⟨ml_139, (List.forall_mem_cons.mpr ⟨ml_140, (List.forall_mem_cons.mpr ⟨ml_141, (List.forall_mem_cons.mpr ⟨ml_15, (List.forall_mem_cons.mpr ⟨ml_142, (List.forall_mem_cons.mpr ⟨ml_143, (List.forall_mem_cons.mpr ⟨ml_144, (List.forall_mem_cons.mpr ⟨ml_145, (List.forall_mem_cons.mpr ⟨ml_146, (List.forall_mem_cons.mpr ⟨ml_147, (List.forall_mem_cons.mpr ⟨ml_45, (List.forall_mem_cons.mpr ⟨ml_148, (List.forall_mem_cons.mpr ⟨ml_149, (List.forall_mem_cons.mpr ⟨ml_150, (List.forall_mem_cons.mpr ⟨ml_151, (List.forall_mem_cons.mpr ⟨ml_152, (List.forall_mem_cons.mpr ⟨ml_58, (List.forall_mem_cons.mpr ⟨ml_153, (List.forall_mem_cons.mpr ⟨ml_154, (List.forall_mem_cons.mpr ⟨ml_155, (List.forall_mem_cons.mpr ⟨ml_156, (List.forall_mem_cons.mpr ⟨ml_157, (List.forall_mem_cons.mpr ⟨ml_64, (fun _ h => absurd h List.not_mem_nil)⟩)⟩)⟩)⟩)⟩)⟩)⟩)⟩)⟩)⟩)⟩)⟩)⟩)⟩)⟩)⟩)⟩)⟩)⟩)⟩)⟩)⟩)⟩)⟩)
set_option maxRecDepth 20000 in
theorem ml_581 : Cond.code yX9_freeEnd cX9_freeEnd 4 (some .int) ∈ wsL_law := inr_25 _ (List.mem_of_getElem? (i := 5) rfl)
set_option maxRecDepth 20000 in
theorem ml_580 : Cond.static yX9_freeEnd ∈ wsL_law := inr_25 _ (List.mem_of_getElem? (i := 4) rfl)
set_option maxRecDepth 20000 in
theorem ml_579 : Cond.methodLink RX9 202 yX9_freeEnd ∈ wsL_law := inr_25 _ (List.mem_of_getElem? (i := 3) rfl)
set_option maxRecDepth 20000 in
theorem ml_578 : Cond.constant RX9 311 (1000000) ∈ wsL_law := inr_25 _ (List.mem_of_getElem? (i := 2) rfl)
set_option maxRecDepth 20000 in
theorem ml_577 : Cond.code yX9_longestFree cX9_longestFree 2 (some .int) ∈ wsL_law := inr_25 _ (List.mem_of_getElem? (i := 1) rfl)
set_option maxRecDepth 20000 in
theorem ml_576 : Cond.static yX9_longestFree ∈ wsL_law := inr_25 _ (List.mem_of_getElem? (i := 0) rfl)
set_option maxRecDepth 20000 in
theorem ml_575 : Cond.methodLink RX9 199 yX9_longestFree ∈ wsL_law := inr_24 _ (List.mem_of_getElem? (i := 23) rfl)
set_option maxRecDepth 20000 in
theorem ml_574 : Cond.constant RJ6 267 (252645135) ∈ wsL_law := inr_24 _ (List.mem_of_getElem? (i := 22) rfl)
set_option maxRecDepth 20000 in
theorem ml_573 : Cond.constant RJ6 266 (858993459) ∈ wsL_law := inr_24 _ (List.mem_of_getElem? (i := 21) rfl)
set_option maxRecDepth 20000 in
theorem ml_572 : Cond.constant RJ6 265 (1431655765) ∈ wsL_law := inr_24 _ (List.mem_of_getElem? (i := 20) rfl)
set_option maxRecDepth 20000 in
theorem ml_571 : Cond.code yJ6_bitCount_0f7a4 cJ6_bitCount_0f7a4 1 (some .int) ∈ wsL_law := inr_24 _ (List.mem_of_getElem? (i := 19) rfl)
set_option maxRecDepth 20000 in
theorem ml_570 : Cond.initialized RJ6 ∈ wsL_law := inr_24 _ (List.mem_of_getElem? (i := 18) rfl)
set_option maxRecDepth 20000 in
theorem ml_569 : Cond.static yJ6_bitCount_0f7a4 ∈ wsL_law := inr_24 _ (List.mem_of_getElem? (i := 17) rfl)
set_option maxRecDepth 20000 in
theorem ml_568 : Cond.methodLink RX9 194 yJ6_bitCount_0f7a4 ∈ wsL_law := inr_24 _ (List.mem_of_getElem? (i := 16) rfl)
set_option maxRecDepth 20000 in
theorem lp_wsX9_free_r2 : ∀ w ∈ wsX9_free_r2, w ∈ wsL_law := (List.forall_mem_cons.mpr ⟨ml_65, (List.forall_mem_cons.mpr ⟨ml_66, (List.forall_mem_cons.mpr ⟨ml_158, (List.forall_mem_cons.mpr ⟨ml_159, (List.forall_mem_cons.mpr ⟨ml_160, (List.forall_mem_cons.mpr ⟨ml_161, (List.forall_mem_cons.mpr ⟨ml_162, (List.forall_mem_cons.mpr ⟨ml_163, (List.forall_mem_cons.mpr ⟨ml_568, (List.forall_mem_cons.mpr ⟨ml_569, (List.forall_mem_cons.mpr ⟨ml_570, (List.forall_mem_cons.mpr ⟨ml_571, (List.forall_mem_cons.mpr ⟨ml_572, (List.forall_mem_cons.mpr ⟨ml_573, (List.forall_mem_cons.mpr ⟨ml_574, (List.forall_mem_cons.mpr ⟨ml_575, (List.forall_mem_cons.mpr ⟨ml_576, (List.forall_mem_cons.mpr ⟨ml_2, (List.forall_mem_cons.mpr ⟨ml_577, (List.forall_mem_cons.mpr ⟨ml_578, (List.forall_mem_cons.mpr ⟨ml_579, (List.forall_mem_cons.mpr ⟨ml_580, (List.forall_mem_cons.mpr ⟨ml_581, (List.forall_mem_cons.mpr ⟨ml_136, (fun _ h => absurd h List.not_mem_nil)⟩)⟩)⟩)⟩)⟩)⟩)⟩)⟩)⟩)⟩)⟩)⟩)⟩)⟩)⟩)⟩)⟩)⟩)⟩)⟩)⟩)⟩)⟩)⟩)
set_option maxRecDepth 20000 in
theorem lp_wsX9_free_r3 : ∀ w ∈ wsX9_free_r3, w ∈ wsL_law := (List.forall_mem_cons.mpr ⟨ml_137, (List.forall_mem_cons.mpr ⟨ml_138, (List.forall_mem_cons.mpr ⟨ml_131, (List.forall_mem_cons.mpr ⟨ml_132, (List.forall_mem_cons.mpr ⟨ml_133, (List.forall_mem_cons.mpr ⟨ml_134, (List.forall_mem_cons.mpr ⟨ml_37, (List.forall_mem_cons.mpr ⟨ml_135, (fun _ h => absurd h List.not_mem_nil)⟩)⟩)⟩)⟩)⟩)⟩)⟩)⟩)
set_option maxRecDepth 20000 in
theorem lp_wsX9_free : ∀ w ∈ wsX9_free, w ∈ wsL_law := (List.forall_mem_cons.mpr ⟨ml_567, (List.forall_mem_append.mpr ⟨(List.forall_mem_append.mpr ⟨(List.forall_mem_append.mpr ⟨(List.forall_mem_append.mpr ⟨lp_wsX9_free_r1, (List.forall_mem_append.mpr ⟨lp_wsX9_free_r2, lp_wsX9_free_r3⟩)⟩), inlX9⟩), inlX0⟩), inlX2⟩)⟩)
set_option maxRecDepth 20000 in
theorem ml_564 : Cond.methodLink RL 79 yX9_free ∈ wsL_law := inr_24 _ (List.mem_of_getElem? (i := 12) rfl)
set_option maxRecDepth 20000 in
theorem ml_565 : Cond.instanceMethod yX9_free ∈ wsL_law := inr_24 _ (List.mem_of_getElem? (i := 13) rfl)
set_option maxRecDepth 20000 in
theorem ml_566 : Cond.selects RX9 yX9_free yX9_free ∈ wsL_law := inr_24 _ (List.mem_of_getElem? (i := 14) rfl)
set_option maxRecDepth 20000 in
theorem gL_law_X9_free : GoodIn wsL_law (wsV RL 79 RX9 yX9_free wsX9_free) := goodIn_sub (List.forall_mem_append.mpr ⟨List.forall_mem_cons.mpr ⟨ml_564, List.forall_mem_cons.mpr ⟨ml_565, List.forall_mem_cons.mpr ⟨ml_566, List.forall_mem_cons.mpr ⟨ml_2, (fun _ h => absurd h List.not_mem_nil)⟩⟩⟩⟩, lp_wsX9_free⟩) (by decide +kernel)
set_option maxRecDepth 20000 in
theorem ml_585 : Cond.code yX10_free cX10_free 4 (some .int) ∈ wsL_law := inr_25 _ (List.mem_of_getElem? (i := 9) rfl)
set_option maxRecDepth 20000 in
theorem ml_589 : Cond.code yX10_bits cX10_bits 3 (some .int) ∈ wsL_law := inr_25 _ (List.mem_of_getElem? (i := 13) rfl)
set_option maxRecDepth 20000 in
theorem ml_588 : Cond.static yX10_bits ∈ wsL_law := inr_25 _ (List.mem_of_getElem? (i := 12) rfl)
set_option maxRecDepth 20000 in
theorem ml_587 : Cond.methodLink RX10 185 yX10_bits ∈ wsL_law := inr_25 _ (List.mem_of_getElem? (i := 11) rfl)
set_option maxRecDepth 20000 in
theorem ml_586 : Cond.constant RX10 191 (-1000000002) ∈ wsL_law := inr_25 _ (List.mem_of_getElem? (i := 10) rfl)
set_option maxRecDepth 20000 in
theorem lp_wsX10_free_r1 : ∀ w ∈ wsX10_free_r1, w ∈ wsL_law := (List.forall_mem_cons.mpr ⟨ml_179, (List.forall_mem_cons.mpr ⟨ml_586, (List.forall_mem_cons.mpr ⟨ml_185, (List.forall_mem_cons.mpr ⟨ml_186, (List.forall_mem_cons.mpr ⟨ml_5, (List.forall_mem_cons.mpr ⟨ml_187, (List.forall_mem_cons.mpr ⟨ml_188, (List.forall_mem_cons.mpr ⟨ml_189, (List.forall_mem_cons.mpr ⟨ml_190, (List.forall_mem_cons.mpr ⟨ml_191, (List.forall_mem_cons.mpr ⟨ml_111, (List.forall_mem_cons.mpr ⟨ml_192, (List.forall_mem_cons.mpr ⟨ml_196, (List.forall_mem_cons.mpr ⟨ml_197, (List.forall_mem_cons.mpr ⟨ml_198, (List.forall_mem_cons.mpr ⟨ml_199, (List.forall_mem_cons.mpr ⟨ml_108, (List.forall_mem_cons.mpr ⟨ml_200, (List.forall_mem_cons.mpr ⟨ml_201, (List.forall_mem_cons.mpr ⟨ml_202, (List.forall_mem_cons.mpr ⟨ml_203, (List.forall_mem_cons.mpr ⟨ml_587, (List.forall_mem_cons.mpr ⟨ml_588, (List.forall_mem_cons.mpr ⟨ml_589, (fun _ h => absurd h List.not_mem_nil)⟩)⟩)⟩)⟩)⟩)⟩)⟩)⟩)⟩)⟩)⟩)⟩)⟩)⟩)⟩)⟩)⟩)⟩)⟩)⟩)⟩)⟩)⟩)⟩)
set_option maxRecDepth 20000 in
theorem ml_593 : Cond.code yX10_runOf cX10_runOf 7 (some .int) ∈ wsL_law := inr_25 _ (List.mem_of_getElem? (i := 17) rfl)
set_option maxRecDepth 20000 in
theorem ml_592 : Cond.selects RX10 yX10_runOf yX10_runOf ∈ wsL_law := inr_25 _ (List.mem_of_getElem? (i := 16) rfl)
set_option maxRecDepth 20000 in
theorem ml_591 : Cond.instanceMethod yX10_runOf ∈ wsL_law := inr_25 _ (List.mem_of_getElem? (i := 15) rfl)
set_option maxRecDepth 20000 in
theorem ml_590 : Cond.methodLink RX10 188 yX10_runOf ∈ wsL_law := inr_25 _ (List.mem_of_getElem? (i := 14) rfl)
set_option maxRecDepth 20000 in
theorem lp_wsX10_free_r2 : ∀ w ∈ wsX10_free_r2, w ∈ wsL_law := (List.forall_mem_cons.mpr ⟨ml_590, (List.forall_mem_cons.mpr ⟨ml_591, (List.forall_mem_cons.mpr ⟨ml_592, (List.forall_mem_cons.mpr ⟨ml_593, (fun _ h => absurd h List.not_mem_nil)⟩)⟩)⟩)⟩)
set_option maxRecDepth 20000 in
theorem lp_wsX10_free : ∀ w ∈ wsX10_free, w ∈ wsL_law := (List.forall_mem_cons.mpr ⟨ml_585, (List.forall_mem_append.mpr ⟨(List.forall_mem_append.mpr ⟨lp_wsX10_free_r1, lp_wsX10_free_r2⟩), inlX10⟩)⟩)
set_option maxRecDepth 20000 in
theorem ml_582 : Cond.methodLink RL 82 yX10_free ∈ wsL_law := inr_25 _ (List.mem_of_getElem? (i := 6) rfl)
set_option maxRecDepth 20000 in
theorem ml_583 : Cond.instanceMethod yX10_free ∈ wsL_law := inr_25 _ (List.mem_of_getElem? (i := 7) rfl)
set_option maxRecDepth 20000 in
theorem ml_584 : Cond.selects RX10 yX10_free yX10_free ∈ wsL_law := inr_25 _ (List.mem_of_getElem? (i := 8) rfl)
set_option maxRecDepth 20000 in
theorem gL_law_X10_free : GoodIn wsL_law (wsV RL 82 RX10 yX10_free wsX10_free) := goodIn_sub (List.forall_mem_append.mpr ⟨List.forall_mem_cons.mpr ⟨ml_582, List.forall_mem_cons.mpr ⟨ml_583, List.forall_mem_cons.mpr ⟨ml_584, List.forall_mem_cons.mpr ⟨ml_5, (fun _ h => absurd h List.not_mem_nil)⟩⟩⟩⟩, lp_wsX10_free⟩) (by decide +kernel)
set_option maxRecDepth 20000 in
theorem ml_597 : Cond.code yX9_of cX9_of 2 (some .int) ∈ wsL_law := inr_25 _ (List.mem_of_getElem? (i := 21) rfl)
set_option maxRecDepth 20000 in
theorem ml_601 : Cond.code yX0_columnsOf cX0_columnsOf 4 (some .int) ∈ wsL_law := inr_26 _ (List.mem_of_getElem? (i := 1) rfl)
set_option maxRecDepth 20000 in
theorem ml_600 : Cond.selects RX0 yX0_columnsOf yX0_columnsOf ∈ wsL_law := inr_26 _ (List.mem_of_getElem? (i := 0) rfl)
set_option maxRecDepth 20000 in
theorem ml_599 : Cond.instanceMethod yX0_columnsOf ∈ wsL_law := inr_25 _ (List.mem_of_getElem? (i := 23) rfl)
set_option maxRecDepth 20000 in
theorem ml_598 : Cond.methodLink RX9 206 yX0_columnsOf ∈ wsL_law := inr_25 _ (List.mem_of_getElem? (i := 22) rfl)
set_option maxRecDepth 20000 in
theorem lp_wsX9_of_r1 : ∀ w ∈ wsX9_of_r1, w ∈ wsL_law := (List.forall_mem_cons.mpr ⟨ml_16, (List.forall_mem_cons.mpr ⟨ml_128, (List.forall_mem_cons.mpr ⟨ml_129, (List.forall_mem_cons.mpr ⟨ml_2, (List.forall_mem_cons.mpr ⟨ml_130, (List.forall_mem_cons.mpr ⟨ml_598, (List.forall_mem_cons.mpr ⟨ml_599, (List.forall_mem_cons.mpr ⟨ml_600, (List.forall_mem_cons.mpr ⟨ml_15, (List.forall_mem_cons.mpr ⟨ml_601, (List.forall_mem_cons.mpr ⟨ml_147, (List.forall_mem_cons.mpr ⟨ml_45, (List.forall_mem_cons.mpr ⟨ml_568, (List.forall_mem_cons.mpr ⟨ml_569, (List.forall_mem_cons.mpr ⟨ml_570, (List.forall_mem_cons.mpr ⟨ml_571, (List.forall_mem_cons.mpr ⟨ml_572, (List.forall_mem_cons.mpr ⟨ml_573, (List.forall_mem_cons.mpr ⟨ml_574, (List.forall_mem_cons.mpr ⟨ml_131, (List.forall_mem_cons.mpr ⟨ml_132, (List.forall_mem_cons.mpr ⟨ml_133, (List.forall_mem_cons.mpr ⟨ml_134, (List.forall_mem_cons.mpr ⟨ml_37, (fun _ h => absurd h List.not_mem_nil)⟩)⟩)⟩)⟩)⟩)⟩)⟩)⟩)⟩)⟩)⟩)⟩)⟩)⟩)⟩)⟩)⟩)⟩)⟩)⟩)⟩)⟩)⟩)⟩)
set_option maxRecDepth 20000 in
theorem lp_wsX9_of_r2 : ∀ w ∈ wsX9_of_r2, w ∈ wsL_law := (List.forall_mem_cons.mpr ⟨ml_135, (fun _ h => absurd h List.not_mem_nil)⟩)
set_option maxRecDepth 20000 in
theorem lp_wsX9_of : ∀ w ∈ wsX9_of, w ∈ wsL_law := (List.forall_mem_cons.mpr ⟨ml_597, (List.forall_mem_append.mpr ⟨(List.forall_mem_append.mpr ⟨(List.forall_mem_append.mpr ⟨(List.forall_mem_append.mpr ⟨lp_wsX9_of_r1, lp_wsX9_of_r2⟩), inlX9⟩), inlX0⟩), inlX2⟩)⟩)
set_option maxRecDepth 20000 in
theorem ml_594 : Cond.methodLink RL 83 yX9_of ∈ wsL_law := inr_25 _ (List.mem_of_getElem? (i := 18) rfl)
set_option maxRecDepth 20000 in
theorem ml_595 : Cond.instanceMethod yX9_of ∈ wsL_law := inr_25 _ (List.mem_of_getElem? (i := 19) rfl)
set_option maxRecDepth 20000 in
theorem ml_596 : Cond.selects RX9 yX9_of yX9_of ∈ wsL_law := inr_25 _ (List.mem_of_getElem? (i := 20) rfl)
set_option maxRecDepth 20000 in
theorem gL_law_X9_of : GoodIn wsL_law (wsV RL 83 RX9 yX9_of wsX9_of) := goodIn_sub (List.forall_mem_append.mpr ⟨List.forall_mem_cons.mpr ⟨ml_594, List.forall_mem_cons.mpr ⟨ml_595, List.forall_mem_cons.mpr ⟨ml_596, List.forall_mem_cons.mpr ⟨ml_2, (fun _ h => absurd h List.not_mem_nil)⟩⟩⟩⟩, lp_wsX9_of⟩) (by decide +kernel)
set_option maxRecDepth 20000 in
theorem ml_605 : Cond.code yX10_of cX10_of 2 (some .int) ∈ wsL_law := inr_26 _ (List.mem_of_getElem? (i := 5) rfl)
set_option maxRecDepth 20000 in
theorem lp_wsX10_of : ∀ w ∈ wsX10_of, w ∈ wsL_law := (List.forall_mem_cons.mpr ⟨ml_605, (List.forall_mem_append.mpr ⟨(List.forall_mem_cons.mpr ⟨ml_179, (List.forall_mem_cons.mpr ⟨ml_185, (List.forall_mem_cons.mpr ⟨ml_186, (List.forall_mem_cons.mpr ⟨ml_5, (List.forall_mem_cons.mpr ⟨ml_187, (List.forall_mem_cons.mpr ⟨ml_196, (List.forall_mem_cons.mpr ⟨ml_197, (List.forall_mem_cons.mpr ⟨ml_198, (List.forall_mem_cons.mpr ⟨ml_199, (List.forall_mem_cons.mpr ⟨ml_108, (List.forall_mem_cons.mpr ⟨ml_200, (List.forall_mem_cons.mpr ⟨ml_201, (List.forall_mem_cons.mpr ⟨ml_202, (List.forall_mem_cons.mpr ⟨ml_203, (List.forall_mem_cons.mpr ⟨ml_587, (List.forall_mem_cons.mpr ⟨ml_588, (List.forall_mem_cons.mpr ⟨ml_589, (List.forall_mem_cons.mpr ⟨ml_188, (List.forall_mem_cons.mpr ⟨ml_189, (List.forall_mem_cons.mpr ⟨ml_190, (List.forall_mem_cons.mpr ⟨ml_191, (List.forall_mem_cons.mpr ⟨ml_111, (List.forall_mem_cons.mpr ⟨ml_192, (fun _ h => absurd h List.not_mem_nil)⟩)⟩)⟩)⟩)⟩)⟩)⟩)⟩)⟩)⟩)⟩)⟩)⟩)⟩)⟩)⟩)⟩)⟩)⟩)⟩)⟩)⟩)⟩), inlX10⟩)⟩)
set_option maxRecDepth 20000 in
theorem ml_602 : Cond.methodLink RL 86 yX10_of ∈ wsL_law := inr_26 _ (List.mem_of_getElem? (i := 2) rfl)
set_option maxRecDepth 20000 in
theorem ml_603 : Cond.instanceMethod yX10_of ∈ wsL_law := inr_26 _ (List.mem_of_getElem? (i := 3) rfl)
set_option maxRecDepth 20000 in
theorem ml_604 : Cond.selects RX10 yX10_of yX10_of ∈ wsL_law := inr_26 _ (List.mem_of_getElem? (i := 4) rfl)
set_option maxRecDepth 20000 in
theorem gL_law_X10_of : GoodIn wsL_law (wsV RL 86 RX10 yX10_of wsX10_of) := goodIn_sub (List.forall_mem_append.mpr ⟨List.forall_mem_cons.mpr ⟨ml_602, List.forall_mem_cons.mpr ⟨ml_603, List.forall_mem_cons.mpr ⟨ml_604, List.forall_mem_cons.mpr ⟨ml_5, (fun _ h => absurd h List.not_mem_nil)⟩⟩⟩⟩, lp_wsX10_of⟩) (by decide +kernel)
set_option maxRecDepth 20000 in
theorem ml_609 : Cond.code yX9_room cX9_room 3 (some .int) ∈ wsL_law := inr_26 _ (List.mem_of_getElem? (i := 9) rfl)
set_option maxRecDepth 20000 in
theorem ml_618 : Cond.instanceMethod yX0_linesOn ∈ wsL_law := inr_26 _ (List.mem_of_getElem? (i := 18) rfl)
set_option maxRecDepth 20000 in
theorem ml_617 : Cond.methodLink RX5 13 yX0_linesOn ∈ wsL_law := inr_26 _ (List.mem_of_getElem? (i := 17) rfl)
set_option maxRecDepth 20000 in
theorem ml_616 : Cond.fieldLink RX5 35 "BoardKeep$Room" "lines" "I" ∈ wsL_law := inr_26 _ (List.mem_of_getElem? (i := 16) rfl)
set_option maxRecDepth 20000 in
theorem ml_615 : Cond.fieldLink RX5 32 "BoardKeep$Room" "first" "I" ∈ wsL_law := inr_26 _ (List.mem_of_getElem? (i := 15) rfl)
set_option maxRecDepth 20000 in
theorem ml_614 : Cond.fieldLink RX5 28 "BoardKeep$Room" "loss" "I" ∈ wsL_law := inr_26 _ (List.mem_of_getElem? (i := 14) rfl)
set_option maxRecDepth 20000 in
theorem ml_613 : Cond.code yX5_seek cX5_seek 8 (some .boolean) ∈ wsL_law := inr_26 _ (List.mem_of_getElem? (i := 13) rfl)
set_option maxRecDepth 20000 in
theorem ml_612 : Cond.selects RX5 yX5_seek yX5_seek ∈ wsL_law := inr_26 _ (List.mem_of_getElem? (i := 12) rfl)
set_option maxRecDepth 20000 in
theorem ml_611 : Cond.instanceMethod yX5_seek ∈ wsL_law := inr_26 _ (List.mem_of_getElem? (i := 11) rfl)
set_option maxRecDepth 20000 in
theorem ml_610 : Cond.methodLink RX9 209 yX5_seek ∈ wsL_law := inr_26 _ (List.mem_of_getElem? (i := 10) rfl)
set_option maxRecDepth 20000 in
theorem lp_wsX9_room_r1 : ∀ w ∈ wsX9_room_r1, w ∈ wsL_law := (List.forall_mem_cons.mpr ⟨ml_25, (List.forall_mem_cons.mpr ⟨ml_16, (List.forall_mem_cons.mpr ⟨ml_128, (List.forall_mem_cons.mpr ⟨ml_129, (List.forall_mem_cons.mpr ⟨ml_2, (List.forall_mem_cons.mpr ⟨ml_130, (List.forall_mem_cons.mpr ⟨ml_131, (List.forall_mem_cons.mpr ⟨ml_132, (List.forall_mem_cons.mpr ⟨ml_133, (List.forall_mem_cons.mpr ⟨ml_134, (List.forall_mem_cons.mpr ⟨ml_37, (List.forall_mem_cons.mpr ⟨ml_135, (List.forall_mem_cons.mpr ⟨ml_610, (List.forall_mem_cons.mpr ⟨ml_611, (List.forall_mem_cons.mpr ⟨ml_612, (List.forall_mem_cons.mpr ⟨ml_24, (List.forall_mem_cons.mpr ⟨ml_613, (List.forall_mem_cons.mpr ⟨ml_614, (List.forall_mem_cons.mpr ⟨ml_615, (List.forall_mem_cons.mpr ⟨ml_616, (List.forall_mem_cons.mpr ⟨ml_137, (List.forall_mem_cons.mpr ⟨ml_138, (List.forall_mem_cons.mpr ⟨ml_617, (List.forall_mem_cons.mpr ⟨ml_618, (fun _ h => absurd h List.not_mem_nil)⟩)⟩)⟩)⟩)⟩)⟩)⟩)⟩)⟩)⟩)⟩)⟩)⟩)⟩)⟩)⟩)⟩)⟩)⟩)⟩)⟩)⟩)⟩)⟩)
set_option maxRecDepth 20000 in
theorem ml_625 : Cond.methodLink RX5 60 yX2_goesBehind ∈ wsL_law := inr_27 _ (List.mem_of_getElem? (i := 1) rfl)
set_option maxRecDepth 20000 in
theorem ml_624 : Cond.methodLink RX5 65 Lib.Math.max.name ∈ wsL_law := inr_27 _ (List.mem_of_getElem? (i := 0) rfl)
set_option maxRecDepth 20000 in
theorem ml_623 : Cond.code yX5_lastBehind cX5_lastBehind 5 (some .int) ∈ wsL_law := inr_26 _ (List.mem_of_getElem? (i := 23) rfl)
set_option maxRecDepth 20000 in
theorem ml_622 : Cond.static yX5_lastBehind ∈ wsL_law := inr_26 _ (List.mem_of_getElem? (i := 22) rfl)
set_option maxRecDepth 20000 in
theorem ml_621 : Cond.methodLink RX5 19 yX5_lastBehind ∈ wsL_law := inr_26 _ (List.mem_of_getElem? (i := 21) rfl)
set_option maxRecDepth 20000 in
theorem ml_620 : Cond.code yX0_linesOn cX0_linesOn 4 (some .int) ∈ wsL_law := inr_26 _ (List.mem_of_getElem? (i := 20) rfl)
set_option maxRecDepth 20000 in
theorem ml_619 : Cond.selects RX0 yX0_linesOn yX0_linesOn ∈ wsL_law := inr_26 _ (List.mem_of_getElem? (i := 19) rfl)
set_option maxRecDepth 20000 in
theorem lp_wsX9_room_r2 : ∀ w ∈ wsX9_room_r2, w ∈ wsL_law := (List.forall_mem_cons.mpr ⟨ml_619, (List.forall_mem_cons.mpr ⟨ml_15, (List.forall_mem_cons.mpr ⟨ml_620, (List.forall_mem_cons.mpr ⟨ml_147, (List.forall_mem_cons.mpr ⟨ml_45, (List.forall_mem_cons.mpr ⟨ml_621, (List.forall_mem_cons.mpr ⟨ml_622, (List.forall_mem_cons.mpr ⟨ml_623, (List.forall_mem_cons.mpr ⟨ml_624, (List.forall_mem_cons.mpr ⟨ml_64, (List.forall_mem_cons.mpr ⟨ml_65, (List.forall_mem_cons.mpr ⟨ml_66, (List.forall_mem_cons.mpr ⟨ml_539, (List.forall_mem_cons.mpr ⟨ml_540, (List.forall_mem_cons.mpr ⟨ml_625, (List.forall_mem_cons.mpr ⟨ml_151, (List.forall_mem_cons.mpr ⟨ml_152, (List.forall_mem_cons.mpr ⟨ml_58, (List.forall_mem_cons.mpr ⟨ml_153, (List.forall_mem_cons.mpr ⟨ml_154, (List.forall_mem_cons.mpr ⟨ml_155, (List.forall_mem_cons.mpr ⟨ml_156, (List.forall_mem_cons.mpr ⟨ml_157, (List.forall_mem_cons.mpr ⟨ml_158, (fun _ h => absurd h List.not_mem_nil)⟩)⟩)⟩)⟩)⟩)⟩)⟩)⟩)⟩)⟩)⟩)⟩)⟩)⟩)⟩)⟩)⟩)⟩)⟩)⟩)⟩)⟩)⟩)⟩)
set_option maxRecDepth 20000 in
theorem ml_629 : Cond.methodLink RX5 68 yX0_lossOf ∈ wsL_law := inr_27 _ (List.mem_of_getElem? (i := 5) rfl)
set_option maxRecDepth 20000 in
theorem ml_628 : Cond.code yX5_lossOfAll cX5_lossOfAll 5 (some .int) ∈ wsL_law := inr_27 _ (List.mem_of_getElem? (i := 4) rfl)
set_option maxRecDepth 20000 in
theorem ml_627 : Cond.static yX5_lossOfAll ∈ wsL_law := inr_27 _ (List.mem_of_getElem? (i := 3) rfl)
set_option maxRecDepth 20000 in
theorem ml_626 : Cond.methodLink RX5 25 yX5_lossOfAll ∈ wsL_law := inr_27 _ (List.mem_of_getElem? (i := 2) rfl)
set_option maxRecDepth 20000 in
theorem lp_wsX9_room_r3 : ∀ w ∈ wsX9_room_r3, w ∈ wsL_law := (List.forall_mem_cons.mpr ⟨ml_159, (List.forall_mem_cons.mpr ⟨ml_160, (List.forall_mem_cons.mpr ⟨ml_161, (List.forall_mem_cons.mpr ⟨ml_162, (List.forall_mem_cons.mpr ⟨ml_163, (List.forall_mem_cons.mpr ⟨ml_626, (List.forall_mem_cons.mpr ⟨ml_627, (List.forall_mem_cons.mpr ⟨ml_628, (List.forall_mem_cons.mpr ⟨ml_629, (List.forall_mem_cons.mpr ⟨ml_235, (List.forall_mem_cons.mpr ⟨ml_236, (List.forall_mem_cons.mpr ⟨ml_237, (List.forall_mem_cons.mpr ⟨ml_238, (List.forall_mem_cons.mpr ⟨ml_225, (List.forall_mem_cons.mpr ⟨ml_226, (List.forall_mem_cons.mpr ⟨ml_227, (List.forall_mem_cons.mpr ⟨ml_174, (List.forall_mem_cons.mpr ⟨ml_228, (List.forall_mem_cons.mpr ⟨ml_229, (List.forall_mem_cons.mpr ⟨ml_230, (List.forall_mem_cons.mpr ⟨ml_231, (List.forall_mem_cons.mpr ⟨ml_232, (List.forall_mem_cons.mpr ⟨ml_233, (List.forall_mem_cons.mpr ⟨ml_239, (fun _ h => absurd h List.not_mem_nil)⟩)⟩)⟩)⟩)⟩)⟩)⟩)⟩)⟩)⟩)⟩)⟩)⟩)⟩)⟩)⟩)⟩)⟩)⟩)⟩)⟩)⟩)⟩)⟩)
set_option maxRecDepth 20000 in
theorem lp_wsX9_room_r4 : ∀ w ∈ wsX9_room_r4, w ∈ wsL_law := (List.forall_mem_cons.mpr ⟨ml_240, (List.forall_mem_cons.mpr ⟨ml_241, (List.forall_mem_cons.mpr ⟨ml_242, (List.forall_mem_cons.mpr ⟨ml_56, (List.forall_mem_cons.mpr ⟨ml_243, (List.forall_mem_cons.mpr ⟨ml_244, (List.forall_mem_cons.mpr ⟨ml_245, (List.forall_mem_cons.mpr ⟨ml_55, (List.forall_mem_cons.mpr ⟨ml_246, (List.forall_mem_cons.mpr ⟨ml_73, (List.forall_mem_cons.mpr ⟨ml_72, (List.forall_mem_cons.mpr ⟨ml_247, (List.forall_mem_cons.mpr ⟨ml_248, (List.forall_mem_cons.mpr ⟨ml_249, (List.forall_mem_cons.mpr ⟨ml_50, (List.forall_mem_cons.mpr ⟨ml_250, (List.forall_mem_cons.mpr ⟨ml_251, (List.forall_mem_cons.mpr ⟨ml_252, (List.forall_mem_cons.mpr ⟨ml_253, (List.forall_mem_cons.mpr ⟨ml_254, (List.forall_mem_cons.mpr ⟨ml_255, (List.forall_mem_cons.mpr ⟨ml_67, (List.forall_mem_cons.mpr ⟨ml_256, (List.forall_mem_cons.mpr ⟨ml_257, (fun _ h => absurd h List.not_mem_nil)⟩)⟩)⟩)⟩)⟩)⟩)⟩)⟩)⟩)⟩)⟩)⟩)⟩)⟩)⟩)⟩)⟩)⟩)⟩)⟩)⟩)⟩)⟩)⟩)
set_option maxRecDepth 20000 in
theorem lp_wsX9_room_r5 : ∀ w ∈ wsX9_room_r5, w ∈ wsL_law := (List.forall_mem_cons.mpr ⟨ml_258, (List.forall_mem_cons.mpr ⟨ml_259, (List.forall_mem_cons.mpr ⟨ml_260, (List.forall_mem_cons.mpr ⟨ml_261, (List.forall_mem_cons.mpr ⟨ml_262, (List.forall_mem_cons.mpr ⟨ml_568, (List.forall_mem_cons.mpr ⟨ml_569, (List.forall_mem_cons.mpr ⟨ml_570, (List.forall_mem_cons.mpr ⟨ml_571, (List.forall_mem_cons.mpr ⟨ml_572, (List.forall_mem_cons.mpr ⟨ml_573, (List.forall_mem_cons.mpr ⟨ml_574, (List.forall_mem_cons.mpr ⟨ml_501, (fun _ h => absurd h List.not_mem_nil)⟩)⟩)⟩)⟩)⟩)⟩)⟩)⟩)⟩)⟩)⟩)⟩)⟩)
set_option maxRecDepth 20000 in
theorem lp_wsX9_room : ∀ w ∈ wsX9_room, w ∈ wsL_law := (List.forall_mem_cons.mpr ⟨ml_609, (List.forall_mem_append.mpr ⟨(List.forall_mem_append.mpr ⟨(List.forall_mem_append.mpr ⟨(List.forall_mem_append.mpr ⟨(List.forall_mem_append.mpr ⟨(List.forall_mem_append.mpr ⟨(List.forall_mem_append.mpr ⟨lp_wsX9_room_r1, (List.forall_mem_append.mpr ⟨lp_wsX9_room_r2, (List.forall_mem_append.mpr ⟨lp_wsX9_room_r3, (List.forall_mem_append.mpr ⟨lp_wsX9_room_r4, lp_wsX9_room_r5⟩)⟩)⟩)⟩), inlX9⟩), inlX0⟩), inlX5⟩), inlX2⟩), inlX1⟩), inlX6⟩)⟩)
set_option maxRecDepth 20000 in
theorem ml_606 : Cond.methodLink RL 87 yX9_room ∈ wsL_law := inr_26 _ (List.mem_of_getElem? (i := 6) rfl)
set_option maxRecDepth 20000 in
theorem ml_607 : Cond.instanceMethod yX9_room ∈ wsL_law := inr_26 _ (List.mem_of_getElem? (i := 7) rfl)
set_option maxRecDepth 20000 in
theorem ml_608 : Cond.selects RX9 yX9_room yX9_room ∈ wsL_law := inr_26 _ (List.mem_of_getElem? (i := 8) rfl)
set_option maxRecDepth 20000 in
theorem gL_law_X9_room : GoodIn wsL_law (wsV RL 87 RX9 yX9_room wsX9_room) := goodIn_sub (List.forall_mem_append.mpr ⟨List.forall_mem_cons.mpr ⟨ml_606, List.forall_mem_cons.mpr ⟨ml_607, List.forall_mem_cons.mpr ⟨ml_608, List.forall_mem_cons.mpr ⟨ml_2, (fun _ h => absurd h List.not_mem_nil)⟩⟩⟩⟩, lp_wsX9_room⟩) (by decide +kernel)
set_option maxRecDepth 20000 in
theorem ml_633 : Cond.code yX10_room cX10_room 6 (some .int) ∈ wsL_law := inr_27 _ (List.mem_of_getElem? (i := 9) rfl)
set_option maxRecDepth 20000 in
theorem ml_641 : Cond.code yX10_lossOn cX10_lossOn 5 (some .int) ∈ wsL_law := inr_27 _ (List.mem_of_getElem? (i := 17) rfl)
set_option maxRecDepth 20000 in
theorem ml_640 : Cond.selects RX10 yX10_lossOn yX10_lossOn ∈ wsL_law := inr_27 _ (List.mem_of_getElem? (i := 16) rfl)
set_option maxRecDepth 20000 in
theorem ml_639 : Cond.instanceMethod yX10_lossOn ∈ wsL_law := inr_27 _ (List.mem_of_getElem? (i := 15) rfl)
set_option maxRecDepth 20000 in
theorem ml_638 : Cond.methodLink RX10 195 yX10_lossOn ∈ wsL_law := inr_27 _ (List.mem_of_getElem? (i := 14) rfl)
set_option maxRecDepth 20000 in
theorem ml_637 : Cond.code yX10_roomAt cX10_roomAt 7 (some .int) ∈ wsL_law := inr_27 _ (List.mem_of_getElem? (i := 13) rfl)
set_option maxRecDepth 20000 in
theorem ml_636 : Cond.selects RX10 yX10_roomAt yX10_roomAt ∈ wsL_law := inr_27 _ (List.mem_of_getElem? (i := 12) rfl)
set_option maxRecDepth 20000 in
theorem ml_635 : Cond.instanceMethod yX10_roomAt ∈ wsL_law := inr_27 _ (List.mem_of_getElem? (i := 11) rfl)
set_option maxRecDepth 20000 in
theorem ml_634 : Cond.methodLink RX10 198 yX10_roomAt ∈ wsL_law := inr_27 _ (List.mem_of_getElem? (i := 10) rfl)
set_option maxRecDepth 20000 in
theorem lp_wsX10_room_r1 : ∀ w ∈ wsX10_room_r1, w ∈ wsL_law := (List.forall_mem_cons.mpr ⟨ml_179, (List.forall_mem_cons.mpr ⟨ml_586, (List.forall_mem_cons.mpr ⟨ml_108, (List.forall_mem_cons.mpr ⟨ml_185, (List.forall_mem_cons.mpr ⟨ml_186, (List.forall_mem_cons.mpr ⟨ml_5, (List.forall_mem_cons.mpr ⟨ml_187, (List.forall_mem_cons.mpr ⟨ml_188, (List.forall_mem_cons.mpr ⟨ml_189, (List.forall_mem_cons.mpr ⟨ml_190, (List.forall_mem_cons.mpr ⟨ml_191, (List.forall_mem_cons.mpr ⟨ml_111, (List.forall_mem_cons.mpr ⟨ml_192, (List.forall_mem_cons.mpr ⟨ml_634, (List.forall_mem_cons.mpr ⟨ml_635, (List.forall_mem_cons.mpr ⟨ml_636, (List.forall_mem_cons.mpr ⟨ml_637, (List.forall_mem_cons.mpr ⟨ml_193, (List.forall_mem_cons.mpr ⟨ml_194, (List.forall_mem_cons.mpr ⟨ml_195, (List.forall_mem_cons.mpr ⟨ml_638, (List.forall_mem_cons.mpr ⟨ml_639, (List.forall_mem_cons.mpr ⟨ml_640, (List.forall_mem_cons.mpr ⟨ml_641, (fun _ h => absurd h List.not_mem_nil)⟩)⟩)⟩)⟩)⟩)⟩)⟩)⟩)⟩)⟩)⟩)⟩)⟩)⟩)⟩)⟩)⟩)⟩)⟩)⟩)⟩)⟩)⟩)⟩)
set_option maxRecDepth 20000 in
theorem ml_645 : Cond.code yX10_linesOn cX10_linesOn 4 (some .int) ∈ wsL_law := inr_27 _ (List.mem_of_getElem? (i := 21) rfl)
set_option maxRecDepth 20000 in
theorem ml_644 : Cond.selects RX10 yX10_linesOn yX10_linesOn ∈ wsL_law := inr_27 _ (List.mem_of_getElem? (i := 20) rfl)
set_option maxRecDepth 20000 in
theorem ml_643 : Cond.instanceMethod yX10_linesOn ∈ wsL_law := inr_27 _ (List.mem_of_getElem? (i := 19) rfl)
set_option maxRecDepth 20000 in
theorem ml_642 : Cond.methodLink RX10 192 yX10_linesOn ∈ wsL_law := inr_27 _ (List.mem_of_getElem? (i := 18) rfl)
set_option maxRecDepth 20000 in
theorem lp_wsX10_room_r2 : ∀ w ∈ wsX10_room_r2, w ∈ wsL_law := (List.forall_mem_cons.mpr ⟨ml_642, (List.forall_mem_cons.mpr ⟨ml_643, (List.forall_mem_cons.mpr ⟨ml_644, (List.forall_mem_cons.mpr ⟨ml_645, (List.forall_mem_cons.mpr ⟨ml_200, (List.forall_mem_cons.mpr ⟨ml_201, (List.forall_mem_cons.mpr ⟨ml_202, (List.forall_mem_cons.mpr ⟨ml_203, (List.forall_mem_cons.mpr ⟨ml_271, (List.forall_mem_cons.mpr ⟨ml_272, (List.forall_mem_cons.mpr ⟨ml_273, (List.forall_mem_cons.mpr ⟨ml_274, (List.forall_mem_cons.mpr ⟨ml_282, (List.forall_mem_cons.mpr ⟨ml_283, (List.forall_mem_cons.mpr ⟨ml_284, (List.forall_mem_cons.mpr ⟨ml_285, (List.forall_mem_cons.mpr ⟨ml_275, (List.forall_mem_cons.mpr ⟨ml_276, (List.forall_mem_cons.mpr ⟨ml_277, (List.forall_mem_cons.mpr ⟨ml_278, (List.forall_mem_cons.mpr ⟨ml_279, (List.forall_mem_cons.mpr ⟨ml_280, (List.forall_mem_cons.mpr ⟨ml_281, (List.forall_mem_cons.mpr ⟨ml_286, (fun _ h => absurd h List.not_mem_nil)⟩)⟩)⟩)⟩)⟩)⟩)⟩)⟩)⟩)⟩)⟩)⟩)⟩)⟩)⟩)⟩)⟩)⟩)⟩)⟩)⟩)⟩)⟩)⟩)
set_option maxRecDepth 20000 in
theorem lp_wsX10_room_r3 : ∀ w ∈ wsX10_room_r3, w ∈ wsL_law := (List.forall_mem_cons.mpr ⟨ml_287, (List.forall_mem_cons.mpr ⟨ml_288, (List.forall_mem_cons.mpr ⟨ml_289, (List.forall_mem_cons.mpr ⟨ml_117, (List.forall_mem_cons.mpr ⟨ml_290, (List.forall_mem_cons.mpr ⟨ml_291, (List.forall_mem_cons.mpr ⟨ml_292, (List.forall_mem_cons.mpr ⟨ml_293, (List.forall_mem_cons.mpr ⟨ml_118, (List.forall_mem_cons.mpr ⟨ml_294, (List.forall_mem_cons.mpr ⟨ml_295, (List.forall_mem_cons.mpr ⟨ml_296, (List.forall_mem_cons.mpr ⟨ml_587, (List.forall_mem_cons.mpr ⟨ml_588, (List.forall_mem_cons.mpr ⟨ml_589, (fun _ h => absurd h List.not_mem_nil)⟩)⟩)⟩)⟩)⟩)⟩)⟩)⟩)⟩)⟩)⟩)⟩)⟩)⟩)⟩)
set_option maxRecDepth 20000 in
theorem lp_wsX10_room : ∀ w ∈ wsX10_room, w ∈ wsL_law := (List.forall_mem_cons.mpr ⟨ml_633, (List.forall_mem_append.mpr ⟨(List.forall_mem_append.mpr ⟨lp_wsX10_room_r1, (List.forall_mem_append.mpr ⟨lp_wsX10_room_r2, lp_wsX10_room_r3⟩)⟩), inlX10⟩)⟩)
set_option maxRecDepth 20000 in
theorem ml_630 : Cond.methodLink RL 90 yX10_room ∈ wsL_law := inr_27 _ (List.mem_of_getElem? (i := 6) rfl)
set_option maxRecDepth 20000 in
theorem ml_631 : Cond.instanceMethod yX10_room ∈ wsL_law := inr_27 _ (List.mem_of_getElem? (i := 7) rfl)
set_option maxRecDepth 20000 in
theorem ml_632 : Cond.selects RX10 yX10_room yX10_room ∈ wsL_law := inr_27 _ (List.mem_of_getElem? (i := 8) rfl)
set_option maxRecDepth 20000 in
theorem gL_law_X10_room : GoodIn wsL_law (wsV RL 90 RX10 yX10_room wsX10_room) := goodIn_sub (List.forall_mem_append.mpr ⟨List.forall_mem_cons.mpr ⟨ml_630, List.forall_mem_cons.mpr ⟨ml_631, List.forall_mem_cons.mpr ⟨ml_632, List.forall_mem_cons.mpr ⟨ml_5, (fun _ h => absurd h List.not_mem_nil)⟩⟩⟩⟩, lp_wsX10_room⟩) (by decide +kernel)
set_option maxRecDepth 20000 in
theorem ml_649 : Cond.code yX9_when cX9_when 4 (some .int) ∈ wsL_law := inr_28 _ (List.mem_of_getElem? (i := 1) rfl)
set_option maxRecDepth 20000 in
theorem ml_655 : Cond.methodLink RX5 42 Lib.Math.min.name ∈ wsL_law := inr_28 _ (List.mem_of_getElem? (i := 7) rfl)
set_option maxRecDepth 20000 in
theorem ml_654 : Cond.constant RX5 38 (1000000) ∈ wsL_law := inr_28 _ (List.mem_of_getElem? (i := 6) rfl)
set_option maxRecDepth 20000 in
theorem ml_653 : Cond.code yX5_firstBehind cX5_firstBehind 6 (some .int) ∈ wsL_law := inr_28 _ (List.mem_of_getElem? (i := 5) rfl)
set_option maxRecDepth 20000 in
theorem ml_652 : Cond.selects RX5 yX5_firstBehind yX5_firstBehind ∈ wsL_law := inr_28 _ (List.mem_of_getElem? (i := 4) rfl)
set_option maxRecDepth 20000 in
theorem ml_651 : Cond.instanceMethod yX5_firstBehind ∈ wsL_law := inr_28 _ (List.mem_of_getElem? (i := 3) rfl)
set_option maxRecDepth 20000 in
theorem ml_650 : Cond.methodLink RX9 221 yX5_firstBehind ∈ wsL_law := inr_28 _ (List.mem_of_getElem? (i := 2) rfl)
set_option maxRecDepth 20000 in
theorem lp_wsX9_when_r1 : ∀ w ∈ wsX9_when_r1, w ∈ wsL_law := (List.forall_mem_cons.mpr ⟨ml_25, (List.forall_mem_cons.mpr ⟨ml_16, (List.forall_mem_cons.mpr ⟨ml_128, (List.forall_mem_cons.mpr ⟨ml_129, (List.forall_mem_cons.mpr ⟨ml_2, (List.forall_mem_cons.mpr ⟨ml_130, (List.forall_mem_cons.mpr ⟨ml_131, (List.forall_mem_cons.mpr ⟨ml_132, (List.forall_mem_cons.mpr ⟨ml_133, (List.forall_mem_cons.mpr ⟨ml_134, (List.forall_mem_cons.mpr ⟨ml_37, (List.forall_mem_cons.mpr ⟨ml_135, (List.forall_mem_cons.mpr ⟨ml_650, (List.forall_mem_cons.mpr ⟨ml_651, (List.forall_mem_cons.mpr ⟨ml_652, (List.forall_mem_cons.mpr ⟨ml_24, (List.forall_mem_cons.mpr ⟨ml_653, (List.forall_mem_cons.mpr ⟨ml_654, (List.forall_mem_cons.mpr ⟨ml_655, (List.forall_mem_cons.mpr ⟨ml_231, (List.forall_mem_cons.mpr ⟨ml_65, (List.forall_mem_cons.mpr ⟨ml_232, (List.forall_mem_cons.mpr ⟨ml_137, (List.forall_mem_cons.mpr ⟨ml_138, (fun _ h => absurd h List.not_mem_nil)⟩)⟩)⟩)⟩)⟩)⟩)⟩)⟩)⟩)⟩)⟩)⟩)⟩)⟩)⟩)⟩)⟩)⟩)⟩)⟩)⟩)⟩)⟩)⟩)
set_option maxRecDepth 20000 in
theorem lp_wsX9_when_r2 : ∀ w ∈ wsX9_when_r2, w ∈ wsL_law := (List.forall_mem_cons.mpr ⟨ml_617, (List.forall_mem_cons.mpr ⟨ml_618, (List.forall_mem_cons.mpr ⟨ml_619, (List.forall_mem_cons.mpr ⟨ml_15, (List.forall_mem_cons.mpr ⟨ml_620, (List.forall_mem_cons.mpr ⟨ml_147, (List.forall_mem_cons.mpr ⟨ml_45, (List.forall_mem_cons.mpr ⟨ml_621, (List.forall_mem_cons.mpr ⟨ml_622, (List.forall_mem_cons.mpr ⟨ml_623, (List.forall_mem_cons.mpr ⟨ml_624, (List.forall_mem_cons.mpr ⟨ml_64, (List.forall_mem_cons.mpr ⟨ml_66, (List.forall_mem_cons.mpr ⟨ml_539, (List.forall_mem_cons.mpr ⟨ml_540, (List.forall_mem_cons.mpr ⟨ml_625, (List.forall_mem_cons.mpr ⟨ml_151, (List.forall_mem_cons.mpr ⟨ml_152, (List.forall_mem_cons.mpr ⟨ml_58, (List.forall_mem_cons.mpr ⟨ml_153, (List.forall_mem_cons.mpr ⟨ml_154, (List.forall_mem_cons.mpr ⟨ml_155, (List.forall_mem_cons.mpr ⟨ml_156, (List.forall_mem_cons.mpr ⟨ml_157, (fun _ h => absurd h List.not_mem_nil)⟩)⟩)⟩)⟩)⟩)⟩)⟩)⟩)⟩)⟩)⟩)⟩)⟩)⟩)⟩)⟩)⟩)⟩)⟩)⟩)⟩)⟩)⟩)⟩)
set_option maxRecDepth 20000 in
theorem lp_wsX9_when_r3 : ∀ w ∈ wsX9_when_r3, w ∈ wsL_law := (List.forall_mem_cons.mpr ⟨ml_158, (List.forall_mem_cons.mpr ⟨ml_159, (List.forall_mem_cons.mpr ⟨ml_160, (List.forall_mem_cons.mpr ⟨ml_161, (List.forall_mem_cons.mpr ⟨ml_162, (List.forall_mem_cons.mpr ⟨ml_163, (List.forall_mem_cons.mpr ⟨ml_610, (List.forall_mem_cons.mpr ⟨ml_611, (List.forall_mem_cons.mpr ⟨ml_612, (List.forall_mem_cons.mpr ⟨ml_613, (List.forall_mem_cons.mpr ⟨ml_614, (List.forall_mem_cons.mpr ⟨ml_615, (List.forall_mem_cons.mpr ⟨ml_616, (List.forall_mem_cons.mpr ⟨ml_626, (List.forall_mem_cons.mpr ⟨ml_627, (List.forall_mem_cons.mpr ⟨ml_628, (List.forall_mem_cons.mpr ⟨ml_629, (List.forall_mem_cons.mpr ⟨ml_235, (List.forall_mem_cons.mpr ⟨ml_236, (List.forall_mem_cons.mpr ⟨ml_237, (List.forall_mem_cons.mpr ⟨ml_238, (List.forall_mem_cons.mpr ⟨ml_225, (List.forall_mem_cons.mpr ⟨ml_226, (List.forall_mem_cons.mpr ⟨ml_227, (fun _ h => absurd h List.not_mem_nil)⟩)⟩)⟩)⟩)⟩)⟩)⟩)⟩)⟩)⟩)⟩)⟩)⟩)⟩)⟩)⟩)⟩)⟩)⟩)⟩)⟩)⟩)⟩)⟩)
set_option maxRecDepth 20000 in
theorem lp_wsX9_when_r4 : ∀ w ∈ wsX9_when_r4, w ∈ wsL_law := (List.forall_mem_cons.mpr ⟨ml_174, (List.forall_mem_cons.mpr ⟨ml_228, (List.forall_mem_cons.mpr ⟨ml_229, (List.forall_mem_cons.mpr ⟨ml_230, (List.forall_mem_cons.mpr ⟨ml_233, (List.forall_mem_cons.mpr ⟨ml_239, (List.forall_mem_cons.mpr ⟨ml_240, (List.forall_mem_cons.mpr ⟨ml_241, (List.forall_mem_cons.mpr ⟨ml_242, (List.forall_mem_cons.mpr ⟨ml_56, (List.forall_mem_cons.mpr ⟨ml_243, (List.forall_mem_cons.mpr ⟨ml_244, (List.forall_mem_cons.mpr ⟨ml_245, (List.forall_mem_cons.mpr ⟨ml_55, (List.forall_mem_cons.mpr ⟨ml_246, (List.forall_mem_cons.mpr ⟨ml_73, (List.forall_mem_cons.mpr ⟨ml_72, (List.forall_mem_cons.mpr ⟨ml_247, (List.forall_mem_cons.mpr ⟨ml_248, (List.forall_mem_cons.mpr ⟨ml_249, (List.forall_mem_cons.mpr ⟨ml_50, (List.forall_mem_cons.mpr ⟨ml_250, (List.forall_mem_cons.mpr ⟨ml_251, (List.forall_mem_cons.mpr ⟨ml_252, (fun _ h => absurd h List.not_mem_nil)⟩)⟩)⟩)⟩)⟩)⟩)⟩)⟩)⟩)⟩)⟩)⟩)⟩)⟩)⟩)⟩)⟩)⟩)⟩)⟩)⟩)⟩)⟩)⟩)
set_option maxRecDepth 20000 in
theorem lp_wsX9_when_r5 : ∀ w ∈ wsX9_when_r5, w ∈ wsL_law := (List.forall_mem_cons.mpr ⟨ml_253, (List.forall_mem_cons.mpr ⟨ml_254, (List.forall_mem_cons.mpr ⟨ml_255, (List.forall_mem_cons.mpr ⟨ml_67, (List.forall_mem_cons.mpr ⟨ml_256, (List.forall_mem_cons.mpr ⟨ml_257, (List.forall_mem_cons.mpr ⟨ml_258, (List.forall_mem_cons.mpr ⟨ml_259, (List.forall_mem_cons.mpr ⟨ml_260, (List.forall_mem_cons.mpr ⟨ml_261, (List.forall_mem_cons.mpr ⟨ml_262, (fun _ h => absurd h List.not_mem_nil)⟩)⟩)⟩)⟩)⟩)⟩)⟩)⟩)⟩)⟩)⟩)
set_option maxRecDepth 20000 in
theorem lp_wsX9_when : ∀ w ∈ wsX9_when, w ∈ wsL_law := (List.forall_mem_cons.mpr ⟨ml_649, (List.forall_mem_append.mpr ⟨(List.forall_mem_append.mpr ⟨(List.forall_mem_append.mpr ⟨(List.forall_mem_append.mpr ⟨(List.forall_mem_append.mpr ⟨(List.forall_mem_append.mpr ⟨(List.forall_mem_append.mpr ⟨lp_wsX9_when_r1, (List.forall_mem_append.mpr ⟨lp_wsX9_when_r2, (List.forall_mem_append.mpr ⟨lp_wsX9_when_r3, (List.forall_mem_append.mpr ⟨lp_wsX9_when_r4, lp_wsX9_when_r5⟩)⟩)⟩)⟩), inlX9⟩), inlX0⟩), inlX5⟩), inlX2⟩), inlX1⟩), inlX6⟩)⟩)
set_option maxRecDepth 20000 in
theorem ml_646 : Cond.methodLink RL 91 yX9_when ∈ wsL_law := inr_27 _ (List.mem_of_getElem? (i := 22) rfl)
set_option maxRecDepth 20000 in
theorem ml_647 : Cond.instanceMethod yX9_when ∈ wsL_law := inr_27 _ (List.mem_of_getElem? (i := 23) rfl)
set_option maxRecDepth 20000 in
theorem ml_648 : Cond.selects RX9 yX9_when yX9_when ∈ wsL_law := inr_28 _ (List.mem_of_getElem? (i := 0) rfl)
set_option maxRecDepth 20000 in
theorem gL_law_X9_when : GoodIn wsL_law (wsV RL 91 RX9 yX9_when wsX9_when) := goodIn_sub (List.forall_mem_append.mpr ⟨List.forall_mem_cons.mpr ⟨ml_646, List.forall_mem_cons.mpr ⟨ml_647, List.forall_mem_cons.mpr ⟨ml_648, List.forall_mem_cons.mpr ⟨ml_2, (fun _ h => absurd h List.not_mem_nil)⟩⟩⟩⟩, lp_wsX9_when⟩) (by decide +kernel)
set_option maxRecDepth 20000 in
theorem ml_659 : Cond.code yX10_when cX10_when 6 (some .int) ∈ wsL_law := inr_28 _ (List.mem_of_getElem? (i := 11) rfl)
set_option maxRecDepth 20000 in
theorem lp_wsX10_when_r1 : ∀ w ∈ wsX10_when_r1, w ∈ wsL_law := (List.forall_mem_cons.mpr ⟨ml_179, (List.forall_mem_cons.mpr ⟨ml_108, (List.forall_mem_cons.mpr ⟨ml_586, (List.forall_mem_cons.mpr ⟨ml_185, (List.forall_mem_cons.mpr ⟨ml_186, (List.forall_mem_cons.mpr ⟨ml_5, (List.forall_mem_cons.mpr ⟨ml_187, (List.forall_mem_cons.mpr ⟨ml_188, (List.forall_mem_cons.mpr ⟨ml_189, (List.forall_mem_cons.mpr ⟨ml_190, (List.forall_mem_cons.mpr ⟨ml_191, (List.forall_mem_cons.mpr ⟨ml_111, (List.forall_mem_cons.mpr ⟨ml_192, (List.forall_mem_cons.mpr ⟨ml_634, (List.forall_mem_cons.mpr ⟨ml_635, (List.forall_mem_cons.mpr ⟨ml_636, (List.forall_mem_cons.mpr ⟨ml_637, (List.forall_mem_cons.mpr ⟨ml_193, (List.forall_mem_cons.mpr ⟨ml_194, (List.forall_mem_cons.mpr ⟨ml_195, (List.forall_mem_cons.mpr ⟨ml_638, (List.forall_mem_cons.mpr ⟨ml_639, (List.forall_mem_cons.mpr ⟨ml_640, (List.forall_mem_cons.mpr ⟨ml_641, (fun _ h => absurd h List.not_mem_nil)⟩)⟩)⟩)⟩)⟩)⟩)⟩)⟩)⟩)⟩)⟩)⟩)⟩)⟩)⟩)⟩)⟩)⟩)⟩)⟩)⟩)⟩)⟩)⟩)
set_option maxRecDepth 20000 in
theorem lp_wsX10_when_r2 : ∀ w ∈ wsX10_when_r2, w ∈ wsL_law := (List.forall_mem_cons.mpr ⟨ml_642, (List.forall_mem_cons.mpr ⟨ml_643, (List.forall_mem_cons.mpr ⟨ml_644, (List.forall_mem_cons.mpr ⟨ml_645, (List.forall_mem_cons.mpr ⟨ml_200, (List.forall_mem_cons.mpr ⟨ml_201, (List.forall_mem_cons.mpr ⟨ml_202, (List.forall_mem_cons.mpr ⟨ml_203, (List.forall_mem_cons.mpr ⟨ml_271, (List.forall_mem_cons.mpr ⟨ml_272, (List.forall_mem_cons.mpr ⟨ml_273, (List.forall_mem_cons.mpr ⟨ml_274, (List.forall_mem_cons.mpr ⟨ml_282, (List.forall_mem_cons.mpr ⟨ml_283, (List.forall_mem_cons.mpr ⟨ml_284, (List.forall_mem_cons.mpr ⟨ml_285, (List.forall_mem_cons.mpr ⟨ml_275, (List.forall_mem_cons.mpr ⟨ml_276, (List.forall_mem_cons.mpr ⟨ml_277, (List.forall_mem_cons.mpr ⟨ml_278, (List.forall_mem_cons.mpr ⟨ml_279, (List.forall_mem_cons.mpr ⟨ml_280, (List.forall_mem_cons.mpr ⟨ml_281, (List.forall_mem_cons.mpr ⟨ml_286, (fun _ h => absurd h List.not_mem_nil)⟩)⟩)⟩)⟩)⟩)⟩)⟩)⟩)⟩)⟩)⟩)⟩)⟩)⟩)⟩)⟩)⟩)⟩)⟩)⟩)⟩)⟩)⟩)⟩)
set_option maxRecDepth 20000 in
theorem lp_wsX10_when_r3 : ∀ w ∈ wsX10_when_r3, w ∈ wsL_law := (List.forall_mem_cons.mpr ⟨ml_287, (List.forall_mem_cons.mpr ⟨ml_288, (List.forall_mem_cons.mpr ⟨ml_289, (List.forall_mem_cons.mpr ⟨ml_117, (List.forall_mem_cons.mpr ⟨ml_290, (List.forall_mem_cons.mpr ⟨ml_291, (List.forall_mem_cons.mpr ⟨ml_292, (List.forall_mem_cons.mpr ⟨ml_293, (List.forall_mem_cons.mpr ⟨ml_118, (List.forall_mem_cons.mpr ⟨ml_294, (List.forall_mem_cons.mpr ⟨ml_295, (List.forall_mem_cons.mpr ⟨ml_296, (fun _ h => absurd h List.not_mem_nil)⟩)⟩)⟩)⟩)⟩)⟩)⟩)⟩)⟩)⟩)⟩)⟩)
set_option maxRecDepth 20000 in
theorem lp_wsX10_when : ∀ w ∈ wsX10_when, w ∈ wsL_law := (List.forall_mem_cons.mpr ⟨ml_659, (List.forall_mem_append.mpr ⟨(List.forall_mem_append.mpr ⟨lp_wsX10_when_r1, (List.forall_mem_append.mpr ⟨lp_wsX10_when_r2, lp_wsX10_when_r3⟩)⟩), inlX10⟩)⟩)
set_option maxRecDepth 20000 in
theorem ml_656 : Cond.methodLink RL 94 yX10_when ∈ wsL_law := inr_28 _ (List.mem_of_getElem? (i := 8) rfl)
set_option maxRecDepth 20000 in
theorem ml_657 : Cond.instanceMethod yX10_when ∈ wsL_law := inr_28 _ (List.mem_of_getElem? (i := 9) rfl)
set_option maxRecDepth 20000 in
theorem ml_658 : Cond.selects RX10 yX10_when yX10_when ∈ wsL_law := inr_28 _ (List.mem_of_getElem? (i := 10) rfl)
set_option maxRecDepth 20000 in
theorem gL_law_X10_when : GoodIn wsL_law (wsV RL 94 RX10 yX10_when wsX10_when) := goodIn_sub (List.forall_mem_append.mpr ⟨List.forall_mem_cons.mpr ⟨ml_656, List.forall_mem_cons.mpr ⟨ml_657, List.forall_mem_cons.mpr ⟨ml_658, List.forall_mem_cons.mpr ⟨ml_5, (fun _ h => absurd h List.not_mem_nil)⟩⟩⟩⟩, lp_wsX10_when⟩) (by decide +kernel)
set_option maxRecDepth 20000 in
theorem ml_663 : Cond.code yX9_clears cX9_clears 2 (some .int) ∈ wsL_law := inr_28 _ (List.mem_of_getElem? (i := 15) rfl)
set_option maxRecDepth 20000 in
theorem ml_664 : Cond.methodLink RX9 225 yX0_takenBehind ∈ wsL_law := inr_28 _ (List.mem_of_getElem? (i := 16) rfl)
set_option maxRecDepth 20000 in
theorem lp_wsX9_clears_r1 : ∀ w ∈ wsX9_clears_r1, w ∈ wsL_law := (List.forall_mem_cons.mpr ⟨ml_16, (List.forall_mem_cons.mpr ⟨ml_128, (List.forall_mem_cons.mpr ⟨ml_129, (List.forall_mem_cons.mpr ⟨ml_2, (List.forall_mem_cons.mpr ⟨ml_130, (List.forall_mem_cons.mpr ⟨ml_664, (List.forall_mem_cons.mpr ⟨ml_144, (List.forall_mem_cons.mpr ⟨ml_145, (List.forall_mem_cons.mpr ⟨ml_15, (List.forall_mem_cons.mpr ⟨ml_146, (List.forall_mem_cons.mpr ⟨ml_147, (List.forall_mem_cons.mpr ⟨ml_45, (List.forall_mem_cons.mpr ⟨ml_148, (List.forall_mem_cons.mpr ⟨ml_149, (List.forall_mem_cons.mpr ⟨ml_150, (List.forall_mem_cons.mpr ⟨ml_151, (List.forall_mem_cons.mpr ⟨ml_152, (List.forall_mem_cons.mpr ⟨ml_58, (List.forall_mem_cons.mpr ⟨ml_153, (List.forall_mem_cons.mpr ⟨ml_154, (List.forall_mem_cons.mpr ⟨ml_155, (List.forall_mem_cons.mpr ⟨ml_156, (List.forall_mem_cons.mpr ⟨ml_157, (List.forall_mem_cons.mpr ⟨ml_64, (fun _ h => absurd h List.not_mem_nil)⟩)⟩)⟩)⟩)⟩)⟩)⟩)⟩)⟩)⟩)⟩)⟩)⟩)⟩)⟩)⟩)⟩)⟩)⟩)⟩)⟩)⟩)⟩)⟩)
set_option maxRecDepth 20000 in
theorem lp_wsX9_clears_r2 : ∀ w ∈ wsX9_clears_r2, w ∈ wsL_law := (List.forall_mem_cons.mpr ⟨ml_65, (List.forall_mem_cons.mpr ⟨ml_66, (List.forall_mem_cons.mpr ⟨ml_158, (List.forall_mem_cons.mpr ⟨ml_159, (List.forall_mem_cons.mpr ⟨ml_160, (List.forall_mem_cons.mpr ⟨ml_161, (List.forall_mem_cons.mpr ⟨ml_162, (List.forall_mem_cons.mpr ⟨ml_163, (List.forall_mem_cons.mpr ⟨ml_131, (List.forall_mem_cons.mpr ⟨ml_132, (List.forall_mem_cons.mpr ⟨ml_133, (List.forall_mem_cons.mpr ⟨ml_134, (List.forall_mem_cons.mpr ⟨ml_37, (List.forall_mem_cons.mpr ⟨ml_135, (fun _ h => absurd h List.not_mem_nil)⟩)⟩)⟩)⟩)⟩)⟩)⟩)⟩)⟩)⟩)⟩)⟩)⟩)⟩)
set_option maxRecDepth 20000 in
theorem lp_wsX9_clears : ∀ w ∈ wsX9_clears, w ∈ wsL_law := (List.forall_mem_cons.mpr ⟨ml_663, (List.forall_mem_append.mpr ⟨(List.forall_mem_append.mpr ⟨(List.forall_mem_append.mpr ⟨(List.forall_mem_append.mpr ⟨lp_wsX9_clears_r1, lp_wsX9_clears_r2⟩), inlX9⟩), inlX0⟩), inlX2⟩)⟩)
set_option maxRecDepth 20000 in
theorem ml_660 : Cond.methodLink RL 95 yX9_clears ∈ wsL_law := inr_28 _ (List.mem_of_getElem? (i := 12) rfl)
set_option maxRecDepth 20000 in
theorem ml_661 : Cond.instanceMethod yX9_clears ∈ wsL_law := inr_28 _ (List.mem_of_getElem? (i := 13) rfl)
set_option maxRecDepth 20000 in
theorem ml_662 : Cond.selects RX9 yX9_clears yX9_clears ∈ wsL_law := inr_28 _ (List.mem_of_getElem? (i := 14) rfl)
set_option maxRecDepth 20000 in
theorem gL_law_X9_clears : GoodIn wsL_law (wsV RL 95 RX9 yX9_clears wsX9_clears) := goodIn_sub (List.forall_mem_append.mpr ⟨List.forall_mem_cons.mpr ⟨ml_660, List.forall_mem_cons.mpr ⟨ml_661, List.forall_mem_cons.mpr ⟨ml_662, List.forall_mem_cons.mpr ⟨ml_2, (fun _ h => absurd h List.not_mem_nil)⟩⟩⟩⟩, lp_wsX9_clears⟩) (by decide +kernel)
set_option maxRecDepth 20000 in
theorem ml_668 : Cond.code yX10_clears cX10_clears 3 (some .int) ∈ wsL_law := inr_28 _ (List.mem_of_getElem? (i := 20) rfl)
set_option maxRecDepth 20000 in
theorem ml_679 : Cond.code yX10_clearsDay cX10_clearsDay 2 none ∈ wsL_law := inr_29 _ (List.mem_of_getElem? (i := 7) rfl)
set_option maxRecDepth 20000 in
theorem ml_678 : Cond.selects RX10 yX10_clearsDay yX10_clearsDay ∈ wsL_law := inr_29 _ (List.mem_of_getElem? (i := 6) rfl)
set_option maxRecDepth 20000 in
theorem ml_677 : Cond.instanceMethod yX10_clearsDay ∈ wsL_law := inr_29 _ (List.mem_of_getElem? (i := 5) rfl)
set_option maxRecDepth 20000 in
theorem ml_676 : Cond.methodLink RX10 204 yX10_clearsDay ∈ wsL_law := inr_29 _ (List.mem_of_getElem? (i := 4) rfl)
set_option maxRecDepth 20000 in
theorem ml_675 : Cond.code yX10_copyAll cX10_copyAll 3 none ∈ wsL_law := inr_29 _ (List.mem_of_getElem? (i := 3) rfl)
set_option maxRecDepth 20000 in
theorem ml_674 : Cond.static yX10_copyAll ∈ wsL_law := inr_29 _ (List.mem_of_getElem? (i := 2) rfl)
set_option maxRecDepth 20000 in
theorem ml_673 : Cond.methodLink RX10 50 yX10_copyAll ∈ wsL_law := inr_29 _ (List.mem_of_getElem? (i := 1) rfl)
set_option maxRecDepth 20000 in
theorem ml_672 : Cond.code yX10_thinks cX10_thinks 1 none ∈ wsL_law := inr_29 _ (List.mem_of_getElem? (i := 0) rfl)
set_option maxRecDepth 20000 in
theorem ml_671 : Cond.selects RX10 yX10_thinks yX10_thinks ∈ wsL_law := inr_28 _ (List.mem_of_getElem? (i := 23) rfl)
set_option maxRecDepth 20000 in
theorem ml_670 : Cond.instanceMethod yX10_thinks ∈ wsL_law := inr_28 _ (List.mem_of_getElem? (i := 22) rfl)
set_option maxRecDepth 20000 in
theorem ml_669 : Cond.methodLink RX10 201 yX10_thinks ∈ wsL_law := inr_28 _ (List.mem_of_getElem? (i := 21) rfl)
set_option maxRecDepth 20000 in
theorem lp_wsX10_clears_r1 : ∀ w ∈ wsX10_clears_r1, w ∈ wsL_law := (List.forall_mem_cons.mpr ⟨ml_179, (List.forall_mem_cons.mpr ⟨ml_185, (List.forall_mem_cons.mpr ⟨ml_186, (List.forall_mem_cons.mpr ⟨ml_5, (List.forall_mem_cons.mpr ⟨ml_187, (List.forall_mem_cons.mpr ⟨ml_188, (List.forall_mem_cons.mpr ⟨ml_189, (List.forall_mem_cons.mpr ⟨ml_190, (List.forall_mem_cons.mpr ⟨ml_191, (List.forall_mem_cons.mpr ⟨ml_111, (List.forall_mem_cons.mpr ⟨ml_192, (List.forall_mem_cons.mpr ⟨ml_669, (List.forall_mem_cons.mpr ⟨ml_670, (List.forall_mem_cons.mpr ⟨ml_671, (List.forall_mem_cons.mpr ⟨ml_672, (List.forall_mem_cons.mpr ⟨ml_108, (List.forall_mem_cons.mpr ⟨ml_110, (List.forall_mem_cons.mpr ⟨ml_673, (List.forall_mem_cons.mpr ⟨ml_674, (List.forall_mem_cons.mpr ⟨ml_675, (List.forall_mem_cons.mpr ⟨ml_676, (List.forall_mem_cons.mpr ⟨ml_677, (List.forall_mem_cons.mpr ⟨ml_678, (List.forall_mem_cons.mpr ⟨ml_679, (fun _ h => absurd h List.not_mem_nil)⟩)⟩)⟩)⟩)⟩)⟩)⟩)⟩)⟩)⟩)⟩)⟩)⟩)⟩)⟩)⟩)⟩)⟩)⟩)⟩)⟩)⟩)⟩)⟩)
set_option maxRecDepth 20000 in
theorem ml_683 : Cond.code yX10_putsBack cX10_putsBack 1 none ∈ wsL_law := inr_29 _ (List.mem_of_getElem? (i := 11) rfl)
set_option maxRecDepth 20000 in
theorem ml_682 : Cond.selects RX10 yX10_putsBack yX10_putsBack ∈ wsL_law := inr_29 _ (List.mem_of_getElem? (i := 10) rfl)
set_option maxRecDepth 20000 in
theorem ml_681 : Cond.instanceMethod yX10_putsBack ∈ wsL_law := inr_29 _ (List.mem_of_getElem? (i := 9) rfl)
set_option maxRecDepth 20000 in
theorem ml_680 : Cond.methodLink RX10 207 yX10_putsBack ∈ wsL_law := inr_29 _ (List.mem_of_getElem? (i := 8) rfl)
set_option maxRecDepth 20000 in
theorem lp_wsX10_clears_r2 : ∀ w ∈ wsX10_clears_r2, w ∈ wsL_law := (List.forall_mem_cons.mpr ⟨ml_271, (List.forall_mem_cons.mpr ⟨ml_272, (List.forall_mem_cons.mpr ⟨ml_273, (List.forall_mem_cons.mpr ⟨ml_274, (List.forall_mem_cons.mpr ⟨ml_200, (List.forall_mem_cons.mpr ⟨ml_201, (List.forall_mem_cons.mpr ⟨ml_202, (List.forall_mem_cons.mpr ⟨ml_203, (List.forall_mem_cons.mpr ⟨ml_208, (List.forall_mem_cons.mpr ⟨ml_209, (List.forall_mem_cons.mpr ⟨ml_210, (List.forall_mem_cons.mpr ⟨ml_211, (List.forall_mem_cons.mpr ⟨ml_196, (List.forall_mem_cons.mpr ⟨ml_197, (List.forall_mem_cons.mpr ⟨ml_198, (List.forall_mem_cons.mpr ⟨ml_199, (List.forall_mem_cons.mpr ⟨ml_680, (List.forall_mem_cons.mpr ⟨ml_681, (List.forall_mem_cons.mpr ⟨ml_682, (List.forall_mem_cons.mpr ⟨ml_683, (fun _ h => absurd h List.not_mem_nil)⟩)⟩)⟩)⟩)⟩)⟩)⟩)⟩)⟩)⟩)⟩)⟩)⟩)⟩)⟩)⟩)⟩)⟩)⟩)⟩)
set_option maxRecDepth 20000 in
theorem lp_wsX10_clears : ∀ w ∈ wsX10_clears, w ∈ wsL_law := (List.forall_mem_cons.mpr ⟨ml_668, (List.forall_mem_append.mpr ⟨(List.forall_mem_append.mpr ⟨lp_wsX10_clears_r1, lp_wsX10_clears_r2⟩), inlX10⟩)⟩)
set_option maxRecDepth 20000 in
theorem ml_665 : Cond.methodLink RL 98 yX10_clears ∈ wsL_law := inr_28 _ (List.mem_of_getElem? (i := 17) rfl)
set_option maxRecDepth 20000 in
theorem ml_666 : Cond.instanceMethod yX10_clears ∈ wsL_law := inr_28 _ (List.mem_of_getElem? (i := 18) rfl)
set_option maxRecDepth 20000 in
theorem ml_667 : Cond.selects RX10 yX10_clears yX10_clears ∈ wsL_law := inr_28 _ (List.mem_of_getElem? (i := 19) rfl)
set_option maxRecDepth 20000 in
theorem gL_law_X10_clears : GoodIn wsL_law (wsV RL 98 RX10 yX10_clears wsX10_clears) := goodIn_sub (List.forall_mem_append.mpr ⟨List.forall_mem_cons.mpr ⟨ml_665, List.forall_mem_cons.mpr ⟨ml_666, List.forall_mem_cons.mpr ⟨ml_667, List.forall_mem_cons.mpr ⟨ml_5, (fun _ h => absurd h List.not_mem_nil)⟩⟩⟩⟩, lp_wsX10_clears⟩) (by decide +kernel)
set_option maxRecDepth 20000 in
theorem ml_687 : Cond.code yX9_parts cX9_parts 4 (some .int) ∈ wsL_law := inr_29 _ (List.mem_of_getElem? (i := 15) rfl)
set_option maxRecDepth 20000 in
theorem ml_692 : Cond.fieldLink RX7 18 "BoardKeep$Sheet" "bits" "I" ∈ wsL_law := inr_29 _ (List.mem_of_getElem? (i := 20) rfl)
set_option maxRecDepth 20000 in
theorem ml_691 : Cond.code yX7_isMissing cX7_isMissing 1 (some .boolean) ∈ wsL_law := inr_29 _ (List.mem_of_getElem? (i := 19) rfl)
set_option maxRecDepth 20000 in
theorem ml_690 : Cond.selects RX7 yX7_isMissing yX7_isMissing ∈ wsL_law := inr_29 _ (List.mem_of_getElem? (i := 18) rfl)
set_option maxRecDepth 20000 in
theorem ml_689 : Cond.instanceMethod yX7_isMissing ∈ wsL_law := inr_29 _ (List.mem_of_getElem? (i := 17) rfl)
set_option maxRecDepth 20000 in
theorem ml_688 : Cond.methodLink RX9 228 yX7_isMissing ∈ wsL_law := inr_29 _ (List.mem_of_getElem? (i := 16) rfl)
set_option maxRecDepth 20000 in
theorem lp_wsX9_parts_r1 : ∀ w ∈ wsX9_parts_r1, w ∈ wsL_law := (List.forall_mem_cons.mpr ⟨ml_35, (List.forall_mem_cons.mpr ⟨ml_29, (List.forall_mem_cons.mpr ⟨ml_16, (List.forall_mem_cons.mpr ⟨ml_128, (List.forall_mem_cons.mpr ⟨ml_129, (List.forall_mem_cons.mpr ⟨ml_2, (List.forall_mem_cons.mpr ⟨ml_130, (List.forall_mem_cons.mpr ⟨ml_131, (List.forall_mem_cons.mpr ⟨ml_132, (List.forall_mem_cons.mpr ⟨ml_133, (List.forall_mem_cons.mpr ⟨ml_134, (List.forall_mem_cons.mpr ⟨ml_37, (List.forall_mem_cons.mpr ⟨ml_135, (List.forall_mem_cons.mpr ⟨ml_688, (List.forall_mem_cons.mpr ⟨ml_689, (List.forall_mem_cons.mpr ⟨ml_690, (List.forall_mem_cons.mpr ⟨ml_39, (List.forall_mem_cons.mpr ⟨ml_691, (List.forall_mem_cons.mpr ⟨ml_692, (List.forall_mem_cons.mpr ⟨ml_139, (List.forall_mem_cons.mpr ⟨ml_140, (List.forall_mem_cons.mpr ⟨ml_141, (List.forall_mem_cons.mpr ⟨ml_15, (List.forall_mem_cons.mpr ⟨ml_142, (fun _ h => absurd h List.not_mem_nil)⟩)⟩)⟩)⟩)⟩)⟩)⟩)⟩)⟩)⟩)⟩)⟩)⟩)⟩)⟩)⟩)⟩)⟩)⟩)⟩)⟩)⟩)⟩)⟩)
set_option maxRecDepth 20000 in
theorem lp_wsX9_parts_r2 : ∀ w ∈ wsX9_parts_r2, w ∈ wsL_law := (List.forall_mem_cons.mpr ⟨ml_143, (List.forall_mem_cons.mpr ⟨ml_144, (List.forall_mem_cons.mpr ⟨ml_145, (List.forall_mem_cons.mpr ⟨ml_146, (List.forall_mem_cons.mpr ⟨ml_147, (List.forall_mem_cons.mpr ⟨ml_45, (List.forall_mem_cons.mpr ⟨ml_148, (List.forall_mem_cons.mpr ⟨ml_149, (List.forall_mem_cons.mpr ⟨ml_150, (List.forall_mem_cons.mpr ⟨ml_151, (List.forall_mem_cons.mpr ⟨ml_152, (List.forall_mem_cons.mpr ⟨ml_58, (List.forall_mem_cons.mpr ⟨ml_153, (List.forall_mem_cons.mpr ⟨ml_154, (List.forall_mem_cons.mpr ⟨ml_155, (List.forall_mem_cons.mpr ⟨ml_156, (List.forall_mem_cons.mpr ⟨ml_157, (List.forall_mem_cons.mpr ⟨ml_64, (List.forall_mem_cons.mpr ⟨ml_65, (List.forall_mem_cons.mpr ⟨ml_66, (List.forall_mem_cons.mpr ⟨ml_158, (List.forall_mem_cons.mpr ⟨ml_159, (List.forall_mem_cons.mpr ⟨ml_160, (List.forall_mem_cons.mpr ⟨ml_161, (fun _ h => absurd h List.not_mem_nil)⟩)⟩)⟩)⟩)⟩)⟩)⟩)⟩)⟩)⟩)⟩)⟩)⟩)⟩)⟩)⟩)⟩)⟩)⟩)⟩)⟩)⟩)⟩)⟩)
set_option maxRecDepth 20000 in
theorem ml_703 : Cond.constant RX3 40 (1000000) ∈ wsL_law := inr_30 _ (List.mem_of_getElem? (i := 7) rfl)
set_option maxRecDepth 20000 in
theorem ml_702 : Cond.code yX3_leastEnd cX3_leastEnd 7 (some .int) ∈ wsL_law := inr_30 _ (List.mem_of_getElem? (i := 6) rfl)
set_option maxRecDepth 20000 in
theorem ml_701 : Cond.selects RX3 yX3_leastEnd yX3_leastEnd ∈ wsL_law := inr_30 _ (List.mem_of_getElem? (i := 5) rfl)
set_option maxRecDepth 20000 in
theorem ml_700 : Cond.instanceMethod yX3_leastEnd ∈ wsL_law := inr_30 _ (List.mem_of_getElem? (i := 4) rfl)
set_option maxRecDepth 20000 in
theorem ml_699 : Cond.methodLink RX3 27 yX3_leastEnd ∈ wsL_law := inr_30 _ (List.mem_of_getElem? (i := 3) rfl)
set_option maxRecDepth 20000 in
theorem ml_698 : Cond.methodLink RX3 37 Lib.Math.max.name ∈ wsL_law := inr_30 _ (List.mem_of_getElem? (i := 2) rfl)
set_option maxRecDepth 20000 in
theorem ml_697 : Cond.methodLink RX3 21 Lib.Math.min.name ∈ wsL_law := inr_30 _ (List.mem_of_getElem? (i := 1) rfl)
set_option maxRecDepth 20000 in
theorem ml_696 : Cond.code yX3_most cX3_most 6 (some .int) ∈ wsL_law := inr_30 _ (List.mem_of_getElem? (i := 0) rfl)
set_option maxRecDepth 20000 in
theorem ml_695 : Cond.selects RX3 yX3_most yX3_most ∈ wsL_law := inr_29 _ (List.mem_of_getElem? (i := 23) rfl)
set_option maxRecDepth 20000 in
theorem ml_694 : Cond.instanceMethod yX3_most ∈ wsL_law := inr_29 _ (List.mem_of_getElem? (i := 22) rfl)
set_option maxRecDepth 20000 in
theorem ml_693 : Cond.methodLink RX9 238 yX3_most ∈ wsL_law := inr_29 _ (List.mem_of_getElem? (i := 21) rfl)
set_option maxRecDepth 20000 in
theorem lp_wsX9_parts_r3 : ∀ w ∈ wsX9_parts_r3, w ∈ wsL_law := (List.forall_mem_cons.mpr ⟨ml_162, (List.forall_mem_cons.mpr ⟨ml_163, (List.forall_mem_cons.mpr ⟨ml_693, (List.forall_mem_cons.mpr ⟨ml_694, (List.forall_mem_cons.mpr ⟨ml_695, (List.forall_mem_cons.mpr ⟨ml_28, (List.forall_mem_cons.mpr ⟨ml_696, (List.forall_mem_cons.mpr ⟨ml_697, (List.forall_mem_cons.mpr ⟨ml_231, (List.forall_mem_cons.mpr ⟨ml_232, (List.forall_mem_cons.mpr ⟨ml_91, (List.forall_mem_cons.mpr ⟨ml_698, (List.forall_mem_cons.mpr ⟨ml_699, (List.forall_mem_cons.mpr ⟨ml_700, (List.forall_mem_cons.mpr ⟨ml_701, (List.forall_mem_cons.mpr ⟨ml_702, (List.forall_mem_cons.mpr ⟨ml_703, (List.forall_mem_cons.mpr ⟨ml_539, (List.forall_mem_cons.mpr ⟨ml_540, (List.forall_mem_cons.mpr ⟨ml_580, (List.forall_mem_cons.mpr ⟨ml_581, (List.forall_mem_cons.mpr ⟨ml_578, (List.forall_mem_cons.mpr ⟨ml_136, (List.forall_mem_cons.mpr ⟨ml_137, (fun _ h => absurd h List.not_mem_nil)⟩)⟩)⟩)⟩)⟩)⟩)⟩)⟩)⟩)⟩)⟩)⟩)⟩)⟩)⟩)⟩)⟩)⟩)⟩)⟩)⟩)⟩)⟩)⟩)
set_option maxRecDepth 20000 in
theorem ml_704 : Cond.methodLink RX3 31 yJ6_bitCount_0f7a4 ∈ wsL_law := inr_30 _ (List.mem_of_getElem? (i := 8) rfl)
set_option maxRecDepth 20000 in
theorem lp_wsX9_parts_r4 : ∀ w ∈ wsX9_parts_r4, w ∈ wsL_law := (List.forall_mem_cons.mpr ⟨ml_138, (List.forall_mem_cons.mpr ⟨ml_704, (List.forall_mem_cons.mpr ⟨ml_569, (List.forall_mem_cons.mpr ⟨ml_570, (List.forall_mem_cons.mpr ⟨ml_571, (List.forall_mem_cons.mpr ⟨ml_572, (List.forall_mem_cons.mpr ⟨ml_573, (List.forall_mem_cons.mpr ⟨ml_574, (fun _ h => absurd h List.not_mem_nil)⟩)⟩)⟩)⟩)⟩)⟩)⟩)⟩)
set_option maxRecDepth 20000 in
theorem lp_wsX9_parts : ∀ w ∈ wsX9_parts, w ∈ wsL_law := (List.forall_mem_cons.mpr ⟨ml_687, (List.forall_mem_append.mpr ⟨(List.forall_mem_append.mpr ⟨(List.forall_mem_append.mpr ⟨(List.forall_mem_append.mpr ⟨(List.forall_mem_append.mpr ⟨(List.forall_mem_append.mpr ⟨(List.forall_mem_append.mpr ⟨lp_wsX9_parts_r1, (List.forall_mem_append.mpr ⟨lp_wsX9_parts_r2, (List.forall_mem_append.mpr ⟨lp_wsX9_parts_r3, lp_wsX9_parts_r4⟩)⟩)⟩), inlX9⟩), inlX7⟩), inlX6⟩), inlX0⟩), inlX2⟩), inlX3⟩)⟩)
set_option maxRecDepth 20000 in
theorem ml_684 : Cond.methodLink RL 99 yX9_parts ∈ wsL_law := inr_29 _ (List.mem_of_getElem? (i := 12) rfl)
set_option maxRecDepth 20000 in
theorem ml_685 : Cond.instanceMethod yX9_parts ∈ wsL_law := inr_29 _ (List.mem_of_getElem? (i := 13) rfl)
set_option maxRecDepth 20000 in
theorem ml_686 : Cond.selects RX9 yX9_parts yX9_parts ∈ wsL_law := inr_29 _ (List.mem_of_getElem? (i := 14) rfl)
set_option maxRecDepth 20000 in
theorem gL_law_X9_parts : GoodIn wsL_law (wsV RL 99 RX9 yX9_parts wsX9_parts) := goodIn_sub (List.forall_mem_append.mpr ⟨List.forall_mem_cons.mpr ⟨ml_684, List.forall_mem_cons.mpr ⟨ml_685, List.forall_mem_cons.mpr ⟨ml_686, List.forall_mem_cons.mpr ⟨ml_2, (fun _ h => absurd h List.not_mem_nil)⟩⟩⟩⟩, lp_wsX9_parts⟩) (by decide +kernel)
set_option maxRecDepth 20000 in
theorem ml_708 : Cond.code yX10_parts cX10_parts 7 (some .int) ∈ wsL_law := inr_30 _ (List.mem_of_getElem? (i := 12) rfl)
set_option maxRecDepth 20000 in
theorem ml_715 : Cond.code yX10_isSheet cX10_isSheet 1 (some .boolean) ∈ wsL_law := inr_30 _ (List.mem_of_getElem? (i := 19) rfl)
set_option maxRecDepth 20000 in
theorem ml_714 : Cond.static yX10_isSheet ∈ wsL_law := inr_30 _ (List.mem_of_getElem? (i := 18) rfl)
set_option maxRecDepth 20000 in
theorem ml_713 : Cond.methodLink RX10 261 yX10_isSheet ∈ wsL_law := inr_30 _ (List.mem_of_getElem? (i := 17) rfl)
set_option maxRecDepth 20000 in
theorem ml_712 : Cond.code yX10_notThere cX10_notThere 2 (some .int) ∈ wsL_law := inr_30 _ (List.mem_of_getElem? (i := 16) rfl)
set_option maxRecDepth 20000 in
theorem ml_711 : Cond.selects RX10 yX10_notThere yX10_notThere ∈ wsL_law := inr_30 _ (List.mem_of_getElem? (i := 15) rfl)
set_option maxRecDepth 20000 in
theorem ml_710 : Cond.instanceMethod yX10_notThere ∈ wsL_law := inr_30 _ (List.mem_of_getElem? (i := 14) rfl)
set_option maxRecDepth 20000 in
theorem ml_709 : Cond.methodLink RX10 213 yX10_notThere ∈ wsL_law := inr_30 _ (List.mem_of_getElem? (i := 13) rfl)
set_option maxRecDepth 20000 in
theorem lp_wsX10_parts_r1 : ∀ w ∈ wsX10_parts_r1, w ∈ wsL_law := (List.forall_mem_cons.mpr ⟨ml_113, (List.forall_mem_cons.mpr ⟨ml_586, (List.forall_mem_cons.mpr ⟨ml_114, (List.forall_mem_cons.mpr ⟨ml_181, (List.forall_mem_cons.mpr ⟨ml_119, (List.forall_mem_cons.mpr ⟨ml_709, (List.forall_mem_cons.mpr ⟨ml_710, (List.forall_mem_cons.mpr ⟨ml_711, (List.forall_mem_cons.mpr ⟨ml_5, (List.forall_mem_cons.mpr ⟨ml_712, (List.forall_mem_cons.mpr ⟨ml_179, (List.forall_mem_cons.mpr ⟨ml_112, (List.forall_mem_cons.mpr ⟨ml_713, (List.forall_mem_cons.mpr ⟨ml_714, (List.forall_mem_cons.mpr ⟨ml_715, (List.forall_mem_cons.mpr ⟨ml_185, (List.forall_mem_cons.mpr ⟨ml_186, (List.forall_mem_cons.mpr ⟨ml_187, (List.forall_mem_cons.mpr ⟨ml_188, (List.forall_mem_cons.mpr ⟨ml_189, (List.forall_mem_cons.mpr ⟨ml_190, (List.forall_mem_cons.mpr ⟨ml_191, (List.forall_mem_cons.mpr ⟨ml_111, (List.forall_mem_cons.mpr ⟨ml_192, (fun _ h => absurd h List.not_mem_nil)⟩)⟩)⟩)⟩)⟩)⟩)⟩)⟩)⟩)⟩)⟩)⟩)⟩)⟩)⟩)⟩)⟩)⟩)⟩)⟩)⟩)⟩)⟩)⟩)
set_option maxRecDepth 20000 in
theorem ml_719 : Cond.code yX10_partsFrom cX10_partsFrom 7 (some .int) ∈ wsL_law := inr_30 _ (List.mem_of_getElem? (i := 23) rfl)
set_option maxRecDepth 20000 in
theorem ml_718 : Cond.selects RX10 yX10_partsFrom yX10_partsFrom ∈ wsL_law := inr_30 _ (List.mem_of_getElem? (i := 22) rfl)
set_option maxRecDepth 20000 in
theorem ml_717 : Cond.instanceMethod yX10_partsFrom ∈ wsL_law := inr_30 _ (List.mem_of_getElem? (i := 21) rfl)
set_option maxRecDepth 20000 in
theorem ml_716 : Cond.methodLink RX10 210 yX10_partsFrom ∈ wsL_law := inr_30 _ (List.mem_of_getElem? (i := 20) rfl)
set_option maxRecDepth 20000 in
theorem lp_wsX10_parts_r2 : ∀ w ∈ wsX10_parts_r2, w ∈ wsL_law := (List.forall_mem_cons.mpr ⟨ml_196, (List.forall_mem_cons.mpr ⟨ml_197, (List.forall_mem_cons.mpr ⟨ml_198, (List.forall_mem_cons.mpr ⟨ml_199, (List.forall_mem_cons.mpr ⟨ml_108, (List.forall_mem_cons.mpr ⟨ml_200, (List.forall_mem_cons.mpr ⟨ml_201, (List.forall_mem_cons.mpr ⟨ml_202, (List.forall_mem_cons.mpr ⟨ml_203, (List.forall_mem_cons.mpr ⟨ml_716, (List.forall_mem_cons.mpr ⟨ml_717, (List.forall_mem_cons.mpr ⟨ml_718, (List.forall_mem_cons.mpr ⟨ml_719, (fun _ h => absurd h List.not_mem_nil)⟩)⟩)⟩)⟩)⟩)⟩)⟩)⟩)⟩)⟩)⟩)⟩)⟩)
set_option maxRecDepth 20000 in
theorem lp_wsX10_parts : ∀ w ∈ wsX10_parts, w ∈ wsL_law := (List.forall_mem_cons.mpr ⟨ml_708, (List.forall_mem_append.mpr ⟨(List.forall_mem_append.mpr ⟨lp_wsX10_parts_r1, lp_wsX10_parts_r2⟩), inlX10⟩)⟩)
set_option maxRecDepth 20000 in
theorem ml_705 : Cond.methodLink RL 102 yX10_parts ∈ wsL_law := inr_30 _ (List.mem_of_getElem? (i := 9) rfl)
set_option maxRecDepth 20000 in
theorem ml_706 : Cond.instanceMethod yX10_parts ∈ wsL_law := inr_30 _ (List.mem_of_getElem? (i := 10) rfl)
set_option maxRecDepth 20000 in
theorem ml_707 : Cond.selects RX10 yX10_parts yX10_parts ∈ wsL_law := inr_30 _ (List.mem_of_getElem? (i := 11) rfl)
set_option maxRecDepth 20000 in
theorem gL_law_X10_parts : GoodIn wsL_law (wsV RL 102 RX10 yX10_parts wsX10_parts) := goodIn_sub (List.forall_mem_append.mpr ⟨List.forall_mem_cons.mpr ⟨ml_705, List.forall_mem_cons.mpr ⟨ml_706, List.forall_mem_cons.mpr ⟨ml_707, List.forall_mem_cons.mpr ⟨ml_5, (fun _ h => absurd h List.not_mem_nil)⟩⟩⟩⟩, lp_wsX10_parts⟩) (by decide +kernel)
set_option maxRecDepth 20000 in
theorem ml_723 : Cond.code yX9_odds cX9_odds 9 (some .long) ∈ wsL_law := inr_31 _ (List.mem_of_getElem? (i := 3) rfl)
set_option maxRecDepth 20000 in
theorem ml_725 : Cond.methodLink RX9 242 yX9_isOf ∈ wsL_law := inr_31 _ (List.mem_of_getElem? (i := 5) rfl)
set_option maxRecDepth 20000 in
theorem ml_724 : Cond.constantLong RX9 245 (100) ∈ wsL_law := inr_31 _ (List.mem_of_getElem? (i := 4) rfl)
set_option maxRecDepth 20000 in
theorem lp_wsX9_odds_r1 : ∀ w ∈ wsX9_odds_r1, w ∈ wsL_law := (List.forall_mem_cons.mpr ⟨ml_16, (List.forall_mem_cons.mpr ⟨ml_724, (List.forall_mem_cons.mpr ⟨ml_568, (List.forall_mem_cons.mpr ⟨ml_569, (List.forall_mem_cons.mpr ⟨ml_570, (List.forall_mem_cons.mpr ⟨ml_571, (List.forall_mem_cons.mpr ⟨ml_572, (List.forall_mem_cons.mpr ⟨ml_573, (List.forall_mem_cons.mpr ⟨ml_574, (List.forall_mem_cons.mpr ⟨ml_128, (List.forall_mem_cons.mpr ⟨ml_129, (List.forall_mem_cons.mpr ⟨ml_2, (List.forall_mem_cons.mpr ⟨ml_130, (List.forall_mem_cons.mpr ⟨ml_131, (List.forall_mem_cons.mpr ⟨ml_132, (List.forall_mem_cons.mpr ⟨ml_133, (List.forall_mem_cons.mpr ⟨ml_134, (List.forall_mem_cons.mpr ⟨ml_37, (List.forall_mem_cons.mpr ⟨ml_135, (List.forall_mem_cons.mpr ⟨ml_725, (List.forall_mem_cons.mpr ⟨ml_539, (List.forall_mem_cons.mpr ⟨ml_540, (List.forall_mem_cons.mpr ⟨ml_224, (List.forall_mem_cons.mpr ⟨ml_225, (fun _ h => absurd h List.not_mem_nil)⟩)⟩)⟩)⟩)⟩)⟩)⟩)⟩)⟩)⟩)⟩)⟩)⟩)⟩)⟩)⟩)⟩)⟩)⟩)⟩)⟩)⟩)⟩)⟩)
set_option maxRecDepth 20000 in
theorem ml_728 : Cond.code yX9_sharedDivisor cX9_sharedDivisor 11 (some .long) ∈ wsL_law := inr_31 _ (List.mem_of_getElem? (i := 8) rfl)
set_option maxRecDepth 20000 in
theorem ml_727 : Cond.static yX9_sharedDivisor ∈ wsL_law := inr_31 _ (List.mem_of_getElem? (i := 7) rfl)
set_option maxRecDepth 20000 in
theorem ml_726 : Cond.methodLink RX9 247 yX9_sharedDivisor ∈ wsL_law := inr_31 _ (List.mem_of_getElem? (i := 6) rfl)
set_option maxRecDepth 20000 in
theorem lp_wsX9_odds_r2 : ∀ w ∈ wsX9_odds_r2, w ∈ wsL_law := (List.forall_mem_cons.mpr ⟨ml_226, (List.forall_mem_cons.mpr ⟨ml_58, (List.forall_mem_cons.mpr ⟨ml_227, (List.forall_mem_cons.mpr ⟨ml_156, (List.forall_mem_cons.mpr ⟨ml_157, (List.forall_mem_cons.mpr ⟨ml_64, (List.forall_mem_cons.mpr ⟨ml_65, (List.forall_mem_cons.mpr ⟨ml_66, (List.forall_mem_cons.mpr ⟨ml_163, (List.forall_mem_cons.mpr ⟨ml_162, (List.forall_mem_cons.mpr ⟨ml_174, (List.forall_mem_cons.mpr ⟨ml_228, (List.forall_mem_cons.mpr ⟨ml_229, (List.forall_mem_cons.mpr ⟨ml_230, (List.forall_mem_cons.mpr ⟨ml_231, (List.forall_mem_cons.mpr ⟨ml_232, (List.forall_mem_cons.mpr ⟨ml_233, (List.forall_mem_cons.mpr ⟨ml_726, (List.forall_mem_cons.mpr ⟨ml_727, (List.forall_mem_cons.mpr ⟨ml_728, (fun _ h => absurd h List.not_mem_nil)⟩)⟩)⟩)⟩)⟩)⟩)⟩)⟩)⟩)⟩)⟩)⟩)⟩)⟩)⟩)⟩)⟩)⟩)⟩)⟩)
set_option maxRecDepth 20000 in
theorem lp_wsX9_odds : ∀ w ∈ wsX9_odds, w ∈ wsL_law := (List.forall_mem_cons.mpr ⟨ml_723, (List.forall_mem_append.mpr ⟨(List.forall_mem_append.mpr ⟨(List.forall_mem_append.mpr ⟨(List.forall_mem_append.mpr ⟨lp_wsX9_odds_r1, lp_wsX9_odds_r2⟩), inlX9⟩), inlX0⟩), inlX2⟩)⟩)
set_option maxRecDepth 20000 in
theorem ml_720 : Cond.methodLink RL 103 yX9_odds ∈ wsL_law := inr_31 _ (List.mem_of_getElem? (i := 0) rfl)
set_option maxRecDepth 20000 in
theorem ml_721 : Cond.instanceMethod yX9_odds ∈ wsL_law := inr_31 _ (List.mem_of_getElem? (i := 1) rfl)
set_option maxRecDepth 20000 in
theorem ml_722 : Cond.selects RX9 yX9_odds yX9_odds ∈ wsL_law := inr_31 _ (List.mem_of_getElem? (i := 2) rfl)
set_option maxRecDepth 20000 in
theorem gL_law_X9_odds : GoodIn wsL_law (wsV RL 103 RX9 yX9_odds wsX9_odds) := goodIn_sub (List.forall_mem_append.mpr ⟨List.forall_mem_cons.mpr ⟨ml_720, List.forall_mem_cons.mpr ⟨ml_721, List.forall_mem_cons.mpr ⟨ml_722, List.forall_mem_cons.mpr ⟨ml_2, (fun _ h => absurd h List.not_mem_nil)⟩⟩⟩⟩, lp_wsX9_odds⟩) (by decide +kernel)
set_option maxRecDepth 20000 in
theorem ml_732 : Cond.code yX10_odds cX10_odds 13 (some .long) ∈ wsL_law := inr_31 _ (List.mem_of_getElem? (i := 12) rfl)
set_option maxRecDepth 20000 in
theorem ml_733 : Cond.constantLong RX10 216 (100) ∈ wsL_law := inr_31 _ (List.mem_of_getElem? (i := 13) rfl)
set_option maxRecDepth 20000 in
theorem lp_wsX10_odds_r1 : ∀ w ∈ wsX10_odds_r1, w ∈ wsL_law := (List.forall_mem_cons.mpr ⟨ml_108, (List.forall_mem_cons.mpr ⟨ml_179, (List.forall_mem_cons.mpr ⟨ml_733, (List.forall_mem_cons.mpr ⟨ml_185, (List.forall_mem_cons.mpr ⟨ml_186, (List.forall_mem_cons.mpr ⟨ml_5, (List.forall_mem_cons.mpr ⟨ml_187, (List.forall_mem_cons.mpr ⟨ml_587, (List.forall_mem_cons.mpr ⟨ml_588, (List.forall_mem_cons.mpr ⟨ml_589, (List.forall_mem_cons.mpr ⟨ml_188, (List.forall_mem_cons.mpr ⟨ml_189, (List.forall_mem_cons.mpr ⟨ml_190, (List.forall_mem_cons.mpr ⟨ml_191, (List.forall_mem_cons.mpr ⟨ml_111, (List.forall_mem_cons.mpr ⟨ml_192, (List.forall_mem_cons.mpr ⟨ml_275, (List.forall_mem_cons.mpr ⟨ml_276, (List.forall_mem_cons.mpr ⟨ml_277, (List.forall_mem_cons.mpr ⟨ml_278, (List.forall_mem_cons.mpr ⟨ml_200, (List.forall_mem_cons.mpr ⟨ml_201, (List.forall_mem_cons.mpr ⟨ml_202, (List.forall_mem_cons.mpr ⟨ml_203, (fun _ h => absurd h List.not_mem_nil)⟩)⟩)⟩)⟩)⟩)⟩)⟩)⟩)⟩)⟩)⟩)⟩)⟩)⟩)⟩)⟩)⟩)⟩)⟩)⟩)⟩)⟩)⟩)⟩)
set_option maxRecDepth 20000 in
theorem lp_wsX10_odds_r2 : ∀ w ∈ wsX10_odds_r2, w ∈ wsL_law := (List.forall_mem_cons.mpr ⟨ml_279, (List.forall_mem_cons.mpr ⟨ml_280, (List.forall_mem_cons.mpr ⟨ml_281, (fun _ h => absurd h List.not_mem_nil)⟩)⟩)⟩)
set_option maxRecDepth 20000 in
theorem lp_wsX10_odds : ∀ w ∈ wsX10_odds, w ∈ wsL_law := (List.forall_mem_cons.mpr ⟨ml_732, (List.forall_mem_append.mpr ⟨(List.forall_mem_append.mpr ⟨lp_wsX10_odds_r1, lp_wsX10_odds_r2⟩), inlX10⟩)⟩)
set_option maxRecDepth 20000 in
theorem ml_729 : Cond.methodLink RL 107 yX10_odds ∈ wsL_law := inr_31 _ (List.mem_of_getElem? (i := 9) rfl)
set_option maxRecDepth 20000 in
theorem ml_730 : Cond.instanceMethod yX10_odds ∈ wsL_law := inr_31 _ (List.mem_of_getElem? (i := 10) rfl)
set_option maxRecDepth 20000 in
theorem ml_731 : Cond.selects RX10 yX10_odds yX10_odds ∈ wsL_law := inr_31 _ (List.mem_of_getElem? (i := 11) rfl)
set_option maxRecDepth 20000 in
theorem gL_law_X10_odds : GoodIn wsL_law (wsV RL 107 RX10 yX10_odds wsX10_odds) := goodIn_sub (List.forall_mem_append.mpr ⟨List.forall_mem_cons.mpr ⟨ml_729, List.forall_mem_cons.mpr ⟨ml_730, List.forall_mem_cons.mpr ⟨ml_731, List.forall_mem_cons.mpr ⟨ml_5, (fun _ h => absurd h List.not_mem_nil)⟩⟩⟩⟩, lp_wsX10_odds⟩) (by decide +kernel)
set_option maxRecDepth 20000 in
theorem ml_737 : Cond.code yX9_fits cX9_fits 3 (some .int) ∈ wsL_law := inr_31 _ (List.mem_of_getElem? (i := 17) rfl)
set_option maxRecDepth 20000 in
theorem lp_wsX9_fits_r1 : ∀ w ∈ wsX9_fits_r1, w ∈ wsL_law := (List.forall_mem_cons.mpr ⟨ml_35, (List.forall_mem_cons.mpr ⟨ml_16, (List.forall_mem_cons.mpr ⟨ml_128, (List.forall_mem_cons.mpr ⟨ml_129, (List.forall_mem_cons.mpr ⟨ml_2, (List.forall_mem_cons.mpr ⟨ml_130, (List.forall_mem_cons.mpr ⟨ml_131, (List.forall_mem_cons.mpr ⟨ml_132, (List.forall_mem_cons.mpr ⟨ml_133, (List.forall_mem_cons.mpr ⟨ml_134, (List.forall_mem_cons.mpr ⟨ml_37, (List.forall_mem_cons.mpr ⟨ml_135, (List.forall_mem_cons.mpr ⟨ml_688, (List.forall_mem_cons.mpr ⟨ml_689, (List.forall_mem_cons.mpr ⟨ml_690, (List.forall_mem_cons.mpr ⟨ml_39, (List.forall_mem_cons.mpr ⟨ml_691, (List.forall_mem_cons.mpr ⟨ml_692, (List.forall_mem_cons.mpr ⟨ml_664, (List.forall_mem_cons.mpr ⟨ml_144, (List.forall_mem_cons.mpr ⟨ml_145, (List.forall_mem_cons.mpr ⟨ml_15, (List.forall_mem_cons.mpr ⟨ml_146, (List.forall_mem_cons.mpr ⟨ml_147, (fun _ h => absurd h List.not_mem_nil)⟩)⟩)⟩)⟩)⟩)⟩)⟩)⟩)⟩)⟩)⟩)⟩)⟩)⟩)⟩)⟩)⟩)⟩)⟩)⟩)⟩)⟩)⟩)⟩)
set_option maxRecDepth 20000 in
theorem ml_740 : Cond.code yX9_isSet cX9_isSet 3 (some .boolean) ∈ wsL_law := inr_31 _ (List.mem_of_getElem? (i := 20) rfl)
set_option maxRecDepth 20000 in
theorem ml_739 : Cond.static yX9_isSet ∈ wsL_law := inr_31 _ (List.mem_of_getElem? (i := 19) rfl)
set_option maxRecDepth 20000 in
theorem ml_738 : Cond.methodLink RX9 251 yX9_isSet ∈ wsL_law := inr_31 _ (List.mem_of_getElem? (i := 18) rfl)
set_option maxRecDepth 20000 in
theorem lp_wsX9_fits_r2 : ∀ w ∈ wsX9_fits_r2, w ∈ wsL_law := (List.forall_mem_cons.mpr ⟨ml_45, (List.forall_mem_cons.mpr ⟨ml_148, (List.forall_mem_cons.mpr ⟨ml_149, (List.forall_mem_cons.mpr ⟨ml_150, (List.forall_mem_cons.mpr ⟨ml_151, (List.forall_mem_cons.mpr ⟨ml_152, (List.forall_mem_cons.mpr ⟨ml_58, (List.forall_mem_cons.mpr ⟨ml_153, (List.forall_mem_cons.mpr ⟨ml_154, (List.forall_mem_cons.mpr ⟨ml_155, (List.forall_mem_cons.mpr ⟨ml_156, (List.forall_mem_cons.mpr ⟨ml_157, (List.forall_mem_cons.mpr ⟨ml_64, (List.forall_mem_cons.mpr ⟨ml_65, (List.forall_mem_cons.mpr ⟨ml_66, (List.forall_mem_cons.mpr ⟨ml_158, (List.forall_mem_cons.mpr ⟨ml_159, (List.forall_mem_cons.mpr ⟨ml_160, (List.forall_mem_cons.mpr ⟨ml_161, (List.forall_mem_cons.mpr ⟨ml_162, (List.forall_mem_cons.mpr ⟨ml_163, (List.forall_mem_cons.mpr ⟨ml_738, (List.forall_mem_cons.mpr ⟨ml_739, (List.forall_mem_cons.mpr ⟨ml_740, (fun _ h => absurd h List.not_mem_nil)⟩)⟩)⟩)⟩)⟩)⟩)⟩)⟩)⟩)⟩)⟩)⟩)⟩)⟩)⟩)⟩)⟩)⟩)⟩)⟩)⟩)⟩)⟩)⟩)
set_option maxRecDepth 20000 in
theorem lp_wsX9_fits : ∀ w ∈ wsX9_fits, w ∈ wsL_law := (List.forall_mem_cons.mpr ⟨ml_737, (List.forall_mem_append.mpr ⟨(List.forall_mem_append.mpr ⟨(List.forall_mem_append.mpr ⟨(List.forall_mem_append.mpr ⟨(List.forall_mem_append.mpr ⟨(List.forall_mem_append.mpr ⟨lp_wsX9_fits_r1, lp_wsX9_fits_r2⟩), inlX9⟩), inlX7⟩), inlX6⟩), inlX0⟩), inlX2⟩)⟩)
set_option maxRecDepth 20000 in
theorem ml_734 : Cond.methodLink RL 108 yX9_fits ∈ wsL_law := inr_31 _ (List.mem_of_getElem? (i := 14) rfl)
set_option maxRecDepth 20000 in
theorem ml_735 : Cond.instanceMethod yX9_fits ∈ wsL_law := inr_31 _ (List.mem_of_getElem? (i := 15) rfl)
set_option maxRecDepth 20000 in
theorem ml_736 : Cond.selects RX9 yX9_fits yX9_fits ∈ wsL_law := inr_31 _ (List.mem_of_getElem? (i := 16) rfl)
set_option maxRecDepth 20000 in
theorem gL_law_X9_fits : GoodIn wsL_law (wsV RL 108 RX9 yX9_fits wsX9_fits) := goodIn_sub (List.forall_mem_append.mpr ⟨List.forall_mem_cons.mpr ⟨ml_734, List.forall_mem_cons.mpr ⟨ml_735, List.forall_mem_cons.mpr ⟨ml_736, List.forall_mem_cons.mpr ⟨ml_2, (fun _ h => absurd h List.not_mem_nil)⟩⟩⟩⟩, lp_wsX9_fits⟩) (by decide +kernel)
set_option maxRecDepth 20000 in
theorem ml_744 : Cond.code yX10_fits cX10_fits 4 (some .int) ∈ wsL_law := inr_32 _ (List.mem_of_getElem? (i := 0) rfl)
set_option maxRecDepth 20000 in
theorem lp_wsX10_fits_r1 : ∀ w ∈ wsX10_fits_r1, w ∈ wsL_law := (List.forall_mem_cons.mpr ⟨ml_113, (List.forall_mem_cons.mpr ⟨ml_586, (List.forall_mem_cons.mpr ⟨ml_709, (List.forall_mem_cons.mpr ⟨ml_710, (List.forall_mem_cons.mpr ⟨ml_711, (List.forall_mem_cons.mpr ⟨ml_5, (List.forall_mem_cons.mpr ⟨ml_712, (List.forall_mem_cons.mpr ⟨ml_179, (List.forall_mem_cons.mpr ⟨ml_112, (List.forall_mem_cons.mpr ⟨ml_713, (List.forall_mem_cons.mpr ⟨ml_714, (List.forall_mem_cons.mpr ⟨ml_715, (List.forall_mem_cons.mpr ⟨ml_185, (List.forall_mem_cons.mpr ⟨ml_186, (List.forall_mem_cons.mpr ⟨ml_187, (List.forall_mem_cons.mpr ⟨ml_188, (List.forall_mem_cons.mpr ⟨ml_189, (List.forall_mem_cons.mpr ⟨ml_190, (List.forall_mem_cons.mpr ⟨ml_191, (List.forall_mem_cons.mpr ⟨ml_111, (List.forall_mem_cons.mpr ⟨ml_192, (List.forall_mem_cons.mpr ⟨ml_669, (List.forall_mem_cons.mpr ⟨ml_670, (List.forall_mem_cons.mpr ⟨ml_671, (fun _ h => absurd h List.not_mem_nil)⟩)⟩)⟩)⟩)⟩)⟩)⟩)⟩)⟩)⟩)⟩)⟩)⟩)⟩)⟩)⟩)⟩)⟩)⟩)⟩)⟩)⟩)⟩)⟩)
set_option maxRecDepth 20000 in
theorem ml_748 : Cond.code yX10_isSo cX10_isSo 5 (some .boolean) ∈ wsL_law := inr_32 _ (List.mem_of_getElem? (i := 4) rfl)
set_option maxRecDepth 20000 in
theorem ml_747 : Cond.selects RX10 yX10_isSo yX10_isSo ∈ wsL_law := inr_32 _ (List.mem_of_getElem? (i := 3) rfl)
set_option maxRecDepth 20000 in
theorem ml_746 : Cond.instanceMethod yX10_isSo ∈ wsL_law := inr_32 _ (List.mem_of_getElem? (i := 2) rfl)
set_option maxRecDepth 20000 in
theorem ml_745 : Cond.methodLink RX10 218 yX10_isSo ∈ wsL_law := inr_32 _ (List.mem_of_getElem? (i := 1) rfl)
set_option maxRecDepth 20000 in
theorem lp_wsX10_fits_r2 : ∀ w ∈ wsX10_fits_r2, w ∈ wsL_law := (List.forall_mem_cons.mpr ⟨ml_672, (List.forall_mem_cons.mpr ⟨ml_108, (List.forall_mem_cons.mpr ⟨ml_110, (List.forall_mem_cons.mpr ⟨ml_673, (List.forall_mem_cons.mpr ⟨ml_674, (List.forall_mem_cons.mpr ⟨ml_675, (List.forall_mem_cons.mpr ⟨ml_745, (List.forall_mem_cons.mpr ⟨ml_746, (List.forall_mem_cons.mpr ⟨ml_747, (List.forall_mem_cons.mpr ⟨ml_748, (List.forall_mem_cons.mpr ⟨ml_114, (List.forall_mem_cons.mpr ⟨ml_196, (List.forall_mem_cons.mpr ⟨ml_197, (List.forall_mem_cons.mpr ⟨ml_198, (List.forall_mem_cons.mpr ⟨ml_199, (List.forall_mem_cons.mpr ⟨ml_200, (List.forall_mem_cons.mpr ⟨ml_201, (List.forall_mem_cons.mpr ⟨ml_202, (List.forall_mem_cons.mpr ⟨ml_203, (List.forall_mem_cons.mpr ⟨ml_676, (List.forall_mem_cons.mpr ⟨ml_677, (List.forall_mem_cons.mpr ⟨ml_678, (List.forall_mem_cons.mpr ⟨ml_679, (List.forall_mem_cons.mpr ⟨ml_271, (fun _ h => absurd h List.not_mem_nil)⟩)⟩)⟩)⟩)⟩)⟩)⟩)⟩)⟩)⟩)⟩)⟩)⟩)⟩)⟩)⟩)⟩)⟩)⟩)⟩)⟩)⟩)⟩)⟩)
set_option maxRecDepth 20000 in
theorem lp_wsX10_fits_r3 : ∀ w ∈ wsX10_fits_r3, w ∈ wsL_law := (List.forall_mem_cons.mpr ⟨ml_272, (List.forall_mem_cons.mpr ⟨ml_273, (List.forall_mem_cons.mpr ⟨ml_274, (List.forall_mem_cons.mpr ⟨ml_208, (List.forall_mem_cons.mpr ⟨ml_209, (List.forall_mem_cons.mpr ⟨ml_210, (List.forall_mem_cons.mpr ⟨ml_211, (List.forall_mem_cons.mpr ⟨ml_680, (List.forall_mem_cons.mpr ⟨ml_681, (List.forall_mem_cons.mpr ⟨ml_682, (List.forall_mem_cons.mpr ⟨ml_683, (fun _ h => absurd h List.not_mem_nil)⟩)⟩)⟩)⟩)⟩)⟩)⟩)⟩)⟩)⟩)⟩)
set_option maxRecDepth 20000 in
theorem lp_wsX10_fits : ∀ w ∈ wsX10_fits, w ∈ wsL_law := (List.forall_mem_cons.mpr ⟨ml_744, (List.forall_mem_append.mpr ⟨(List.forall_mem_append.mpr ⟨lp_wsX10_fits_r1, (List.forall_mem_append.mpr ⟨lp_wsX10_fits_r2, lp_wsX10_fits_r3⟩)⟩), inlX10⟩)⟩)
set_option maxRecDepth 20000 in
theorem ml_741 : Cond.methodLink RL 111 yX10_fits ∈ wsL_law := inr_31 _ (List.mem_of_getElem? (i := 21) rfl)
set_option maxRecDepth 20000 in
theorem ml_742 : Cond.instanceMethod yX10_fits ∈ wsL_law := inr_31 _ (List.mem_of_getElem? (i := 22) rfl)
set_option maxRecDepth 20000 in
theorem ml_743 : Cond.selects RX10 yX10_fits yX10_fits ∈ wsL_law := inr_31 _ (List.mem_of_getElem? (i := 23) rfl)
set_option maxRecDepth 20000 in
theorem gL_law_X10_fits : GoodIn wsL_law (wsV RL 111 RX10 yX10_fits wsX10_fits) := goodIn_sub (List.forall_mem_append.mpr ⟨List.forall_mem_cons.mpr ⟨ml_741, List.forall_mem_cons.mpr ⟨ml_742, List.forall_mem_cons.mpr ⟨ml_743, List.forall_mem_cons.mpr ⟨ml_5, (fun _ h => absurd h List.not_mem_nil)⟩⟩⟩⟩, lp_wsX10_fits⟩) (by decide +kernel)
set_option maxRecDepth 20000 in
theorem ml_752 : Cond.code yX9_voice cX9_voice 5 (some .int) ∈ wsL_law := inr_32 _ (List.mem_of_getElem? (i := 8) rfl)
set_option maxRecDepth 20000 in
theorem ml_756 : Cond.code yX8_say cX8_say 5 (some .int) ∈ wsL_law := inr_32 _ (List.mem_of_getElem? (i := 12) rfl)
set_option maxRecDepth 20000 in
theorem ml_755 : Cond.selects RX8 yX8_say yX8_say ∈ wsL_law := inr_32 _ (List.mem_of_getElem? (i := 11) rfl)
set_option maxRecDepth 20000 in
theorem ml_754 : Cond.instanceMethod yX8_say ∈ wsL_law := inr_32 _ (List.mem_of_getElem? (i := 10) rfl)
set_option maxRecDepth 20000 in
theorem ml_753 : Cond.methodLink RX9 254 yX8_say ∈ wsL_law := inr_32 _ (List.mem_of_getElem? (i := 9) rfl)
set_option maxRecDepth 20000 in
theorem lp_wsX9_voice_r1 : ∀ w ∈ wsX9_voice_r1, w ∈ wsL_law := (List.forall_mem_cons.mpr ⟨ml_16, (List.forall_mem_cons.mpr ⟨ml_33, (List.forall_mem_cons.mpr ⟨ml_216, (List.forall_mem_cons.mpr ⟨ml_217, (List.forall_mem_cons.mpr ⟨ml_218, (List.forall_mem_cons.mpr ⟨ml_15, (List.forall_mem_cons.mpr ⟨ml_219, (List.forall_mem_cons.mpr ⟨ml_147, (List.forall_mem_cons.mpr ⟨ml_128, (List.forall_mem_cons.mpr ⟨ml_129, (List.forall_mem_cons.mpr ⟨ml_2, (List.forall_mem_cons.mpr ⟨ml_130, (List.forall_mem_cons.mpr ⟨ml_131, (List.forall_mem_cons.mpr ⟨ml_132, (List.forall_mem_cons.mpr ⟨ml_133, (List.forall_mem_cons.mpr ⟨ml_134, (List.forall_mem_cons.mpr ⟨ml_37, (List.forall_mem_cons.mpr ⟨ml_135, (List.forall_mem_cons.mpr ⟨ml_753, (List.forall_mem_cons.mpr ⟨ml_754, (List.forall_mem_cons.mpr ⟨ml_755, (List.forall_mem_cons.mpr ⟨ml_32, (List.forall_mem_cons.mpr ⟨ml_756, (List.forall_mem_cons.mpr ⟨ml_96, (fun _ h => absurd h List.not_mem_nil)⟩)⟩)⟩)⟩)⟩)⟩)⟩)⟩)⟩)⟩)⟩)⟩)⟩)⟩)⟩)⟩)⟩)⟩)⟩)⟩)⟩)⟩)⟩)⟩)
set_option maxRecDepth 20000 in
theorem ml_771 : Cond.methodLink RX8 56 yX8_divided ∈ wsL_law := inr_33 _ (List.mem_of_getElem? (i := 3) rfl)
set_option maxRecDepth 20000 in
theorem ml_770 : Cond.methodLink RX8 49 yX6_add ∈ wsL_law := inr_33 _ (List.mem_of_getElem? (i := 2) rfl)
set_option maxRecDepth 20000 in
theorem ml_769 : Cond.fieldLink RX8 60 "BoardKeep$Voices" "BODIES" "[I" ∈ wsL_law := inr_33 _ (List.mem_of_getElem? (i := 1) rfl)
set_option maxRecDepth 20000 in
theorem ml_768 : Cond.code yX8_bodyOf cX8_bodyOf 5 (some .int) ∈ wsL_law := inr_33 _ (List.mem_of_getElem? (i := 0) rfl)
set_option maxRecDepth 20000 in
theorem ml_767 : Cond.static yX8_bodyOf ∈ wsL_law := inr_32 _ (List.mem_of_getElem? (i := 23) rfl)
set_option maxRecDepth 20000 in
theorem ml_766 : Cond.methodLink RX8 45 yX8_bodyOf ∈ wsL_law := inr_32 _ (List.mem_of_getElem? (i := 22) rfl)
set_option maxRecDepth 20000 in
theorem ml_765 : Cond.code yX8_workOut cX8_workOut 9 (some .int) ∈ wsL_law := inr_32 _ (List.mem_of_getElem? (i := 21) rfl)
set_option maxRecDepth 20000 in
theorem ml_764 : Cond.selects RX8 yX8_workOut yX8_workOut ∈ wsL_law := inr_32 _ (List.mem_of_getElem? (i := 20) rfl)
set_option maxRecDepth 20000 in
theorem ml_763 : Cond.instanceMethod yX8_workOut ∈ wsL_law := inr_32 _ (List.mem_of_getElem? (i := 19) rfl)
set_option maxRecDepth 20000 in
theorem ml_762 : Cond.methodLink RX8 41 yX8_workOut ∈ wsL_law := inr_32 _ (List.mem_of_getElem? (i := 18) rfl)
set_option maxRecDepth 20000 in
theorem ml_761 : Cond.methodLink RX8 20 yX6_clear ∈ wsL_law := inr_32 _ (List.mem_of_getElem? (i := 17) rfl)
set_option maxRecDepth 20000 in
theorem ml_760 : Cond.fieldLink RX8 40 "BoardKeep$Voices" "m" "I" ∈ wsL_law := inr_32 _ (List.mem_of_getElem? (i := 16) rfl)
set_option maxRecDepth 20000 in
theorem ml_759 : Cond.fieldLink RX8 34 "BoardKeep$Voices" "k" "I" ∈ wsL_law := inr_32 _ (List.mem_of_getElem? (i := 15) rfl)
set_option maxRecDepth 20000 in
theorem ml_758 : Cond.fieldLink RX8 33 "BoardKeep$Voices" "kind" "I" ∈ wsL_law := inr_32 _ (List.mem_of_getElem? (i := 14) rfl)
set_option maxRecDepth 20000 in
theorem ml_757 : Cond.fieldLink RX8 23 "BoardKeep$Voices" "parted" "Z" ∈ wsL_law := inr_32 _ (List.mem_of_getElem? (i := 13) rfl)
set_option maxRecDepth 20000 in
theorem lp_wsX9_voice_r2 : ∀ w ∈ wsX9_voice_r2, w ∈ wsL_law := (List.forall_mem_cons.mpr ⟨ml_757, (List.forall_mem_cons.mpr ⟨ml_758, (List.forall_mem_cons.mpr ⟨ml_759, (List.forall_mem_cons.mpr ⟨ml_760, (List.forall_mem_cons.mpr ⟨ml_761, (List.forall_mem_cons.mpr ⟨ml_248, (List.forall_mem_cons.mpr ⟨ml_249, (List.forall_mem_cons.mpr ⟨ml_50, (List.forall_mem_cons.mpr ⟨ml_250, (List.forall_mem_cons.mpr ⟨ml_251, (List.forall_mem_cons.mpr ⟨ml_762, (List.forall_mem_cons.mpr ⟨ml_763, (List.forall_mem_cons.mpr ⟨ml_764, (List.forall_mem_cons.mpr ⟨ml_765, (List.forall_mem_cons.mpr ⟨ml_766, (List.forall_mem_cons.mpr ⟨ml_767, (List.forall_mem_cons.mpr ⟨ml_768, (List.forall_mem_cons.mpr ⟨ml_769, (List.forall_mem_cons.mpr ⟨ml_770, (List.forall_mem_cons.mpr ⟨ml_253, (List.forall_mem_cons.mpr ⟨ml_254, (List.forall_mem_cons.mpr ⟨ml_255, (List.forall_mem_cons.mpr ⟨ml_67, (List.forall_mem_cons.mpr ⟨ml_771, (fun _ h => absurd h List.not_mem_nil)⟩)⟩)⟩)⟩)⟩)⟩)⟩)⟩)⟩)⟩)⟩)⟩)⟩)⟩)⟩)⟩)⟩)⟩)⟩)⟩)⟩)⟩)⟩)⟩)
set_option maxRecDepth 20000 in
theorem ml_774 : Cond.code yX8_divided cX8_divided 3 (some .int) ∈ wsL_law := inr_33 _ (List.mem_of_getElem? (i := 6) rfl)
set_option maxRecDepth 20000 in
theorem ml_773 : Cond.selects RX8 yX8_divided yX8_divided ∈ wsL_law := inr_33 _ (List.mem_of_getElem? (i := 5) rfl)
set_option maxRecDepth 20000 in
theorem ml_772 : Cond.instanceMethod yX8_divided ∈ wsL_law := inr_33 _ (List.mem_of_getElem? (i := 4) rfl)
set_option maxRecDepth 20000 in
theorem lp_wsX9_voice_r3 : ∀ w ∈ wsX9_voice_r3, w ∈ wsL_law := (List.forall_mem_cons.mpr ⟨ml_772, (List.forall_mem_cons.mpr ⟨ml_773, (List.forall_mem_cons.mpr ⟨ml_774, (fun _ h => absurd h List.not_mem_nil)⟩)⟩)⟩)
set_option maxRecDepth 20000 in
theorem lp_wsX9_voice : ∀ w ∈ wsX9_voice, w ∈ wsL_law := (List.forall_mem_cons.mpr ⟨ml_752, (List.forall_mem_append.mpr ⟨(List.forall_mem_append.mpr ⟨(List.forall_mem_append.mpr ⟨(List.forall_mem_append.mpr ⟨(List.forall_mem_append.mpr ⟨(List.forall_mem_append.mpr ⟨lp_wsX9_voice_r1, (List.forall_mem_append.mpr ⟨lp_wsX9_voice_r2, lp_wsX9_voice_r3⟩)⟩), inlX9⟩), inlX0⟩), inlX8⟩), inlX2⟩), inlX6⟩)⟩)
set_option maxRecDepth 20000 in
theorem ml_749 : Cond.methodLink RL 112 yX9_voice ∈ wsL_law := inr_32 _ (List.mem_of_getElem? (i := 5) rfl)
set_option maxRecDepth 20000 in
theorem ml_750 : Cond.instanceMethod yX9_voice ∈ wsL_law := inr_32 _ (List.mem_of_getElem? (i := 6) rfl)
set_option maxRecDepth 20000 in
theorem ml_751 : Cond.selects RX9 yX9_voice yX9_voice ∈ wsL_law := inr_32 _ (List.mem_of_getElem? (i := 7) rfl)
set_option maxRecDepth 20000 in
theorem gL_law_X9_voice : GoodIn wsL_law (wsV RL 112 RX9 yX9_voice wsX9_voice) := goodIn_sub (List.forall_mem_append.mpr ⟨List.forall_mem_cons.mpr ⟨ml_749, List.forall_mem_cons.mpr ⟨ml_750, List.forall_mem_cons.mpr ⟨ml_751, List.forall_mem_cons.mpr ⟨ml_2, (fun _ h => absurd h List.not_mem_nil)⟩⟩⟩⟩, lp_wsX9_voice⟩) (by decide +kernel)
set_option maxRecDepth 20000 in
theorem ml_778 : Cond.code yX10_voice cX10_voice 5 (some .int) ∈ wsL_law := inr_33 _ (List.mem_of_getElem? (i := 10) rfl)
set_option maxRecDepth 20000 in
theorem ml_785 : Cond.code yX10_squeaks cX10_squeaks 3 (some .int) ∈ wsL_law := inr_33 _ (List.mem_of_getElem? (i := 17) rfl)
set_option maxRecDepth 20000 in
theorem ml_784 : Cond.selects RX10 yX10_squeaks yX10_squeaks ∈ wsL_law := inr_33 _ (List.mem_of_getElem? (i := 16) rfl)
set_option maxRecDepth 20000 in
theorem ml_783 : Cond.instanceMethod yX10_squeaks ∈ wsL_law := inr_33 _ (List.mem_of_getElem? (i := 15) rfl)
set_option maxRecDepth 20000 in
theorem ml_782 : Cond.methodLink RX10 233 yX10_squeaks ∈ wsL_law := inr_33 _ (List.mem_of_getElem? (i := 14) rfl)
set_option maxRecDepth 20000 in
theorem ml_781 : Cond.constant RX10 260 (-1000000006) ∈ wsL_law := inr_33 _ (List.mem_of_getElem? (i := 13) rfl)
set_option maxRecDepth 20000 in
theorem ml_780 : Cond.fieldLink RX10 248 "BoardKeepModel" "isParted" "Z" ∈ wsL_law := inr_33 _ (List.mem_of_getElem? (i := 12) rfl)
set_option maxRecDepth 20000 in
theorem ml_779 : Cond.fieldLink RX10 221 "BoardKeepModel" "traced" "I" ∈ wsL_law := inr_33 _ (List.mem_of_getElem? (i := 11) rfl)
set_option maxRecDepth 20000 in
theorem lp_wsX10_voice_r1 : ∀ w ∈ wsX10_voice_r1, w ∈ wsL_law := (List.forall_mem_cons.mpr ⟨ml_179, (List.forall_mem_cons.mpr ⟨ml_779, (List.forall_mem_cons.mpr ⟨ml_780, (List.forall_mem_cons.mpr ⟨ml_781, (List.forall_mem_cons.mpr ⟨ml_267, (List.forall_mem_cons.mpr ⟨ml_268, (List.forall_mem_cons.mpr ⟨ml_269, (List.forall_mem_cons.mpr ⟨ml_5, (List.forall_mem_cons.mpr ⟨ml_270, (List.forall_mem_cons.mpr ⟨ml_108, (List.forall_mem_cons.mpr ⟨ml_185, (List.forall_mem_cons.mpr ⟨ml_186, (List.forall_mem_cons.mpr ⟨ml_187, (List.forall_mem_cons.mpr ⟨ml_188, (List.forall_mem_cons.mpr ⟨ml_189, (List.forall_mem_cons.mpr ⟨ml_190, (List.forall_mem_cons.mpr ⟨ml_191, (List.forall_mem_cons.mpr ⟨ml_111, (List.forall_mem_cons.mpr ⟨ml_192, (List.forall_mem_cons.mpr ⟨ml_782, (List.forall_mem_cons.mpr ⟨ml_783, (List.forall_mem_cons.mpr ⟨ml_784, (List.forall_mem_cons.mpr ⟨ml_785, (List.forall_mem_cons.mpr ⟨ml_200, (fun _ h => absurd h List.not_mem_nil)⟩)⟩)⟩)⟩)⟩)⟩)⟩)⟩)⟩)⟩)⟩)⟩)⟩)⟩)⟩)⟩)⟩)⟩)⟩)⟩)⟩)⟩)⟩)⟩)
set_option maxRecDepth 20000 in
theorem ml_805 : Cond.code yX10_arrowSmears cX10_arrowSmears 3 (some .int) ∈ wsL_law := inr_34 _ (List.mem_of_getElem? (i := 13) rfl)
set_option maxRecDepth 20000 in
theorem ml_804 : Cond.selects RX10 yX10_arrowSmears yX10_arrowSmears ∈ wsL_law := inr_34 _ (List.mem_of_getElem? (i := 12) rfl)
set_option maxRecDepth 20000 in
theorem ml_803 : Cond.instanceMethod yX10_arrowSmears ∈ wsL_law := inr_34 _ (List.mem_of_getElem? (i := 11) rfl)
set_option maxRecDepth 20000 in
theorem ml_802 : Cond.methodLink RX10 239 yX10_arrowSmears ∈ wsL_law := inr_34 _ (List.mem_of_getElem? (i := 10) rfl)
set_option maxRecDepth 20000 in
theorem ml_801 : Cond.code yX10_smears cX10_smears 3 (some .int) ∈ wsL_law := inr_34 _ (List.mem_of_getElem? (i := 9) rfl)
set_option maxRecDepth 20000 in
theorem ml_800 : Cond.selects RX10 yX10_smears yX10_smears ∈ wsL_law := inr_34 _ (List.mem_of_getElem? (i := 8) rfl)
set_option maxRecDepth 20000 in
theorem ml_799 : Cond.instanceMethod yX10_smears ∈ wsL_law := inr_34 _ (List.mem_of_getElem? (i := 7) rfl)
set_option maxRecDepth 20000 in
theorem ml_798 : Cond.methodLink RX10 242 yX10_smears ∈ wsL_law := inr_34 _ (List.mem_of_getElem? (i := 6) rfl)
set_option maxRecDepth 20000 in
theorem ml_797 : Cond.code yX10_plainSqueaks cX10_plainSqueaks 3 (some .int) ∈ wsL_law := inr_34 _ (List.mem_of_getElem? (i := 5) rfl)
set_option maxRecDepth 20000 in
theorem ml_796 : Cond.selects RX10 yX10_plainSqueaks yX10_plainSqueaks ∈ wsL_law := inr_34 _ (List.mem_of_getElem? (i := 4) rfl)
set_option maxRecDepth 20000 in
theorem ml_795 : Cond.instanceMethod yX10_plainSqueaks ∈ wsL_law := inr_34 _ (List.mem_of_getElem? (i := 3) rfl)
set_option maxRecDepth 20000 in
theorem ml_794 : Cond.methodLink RX10 227 yX10_plainSqueaks ∈ wsL_law := inr_34 _ (List.mem_of_getElem? (i := 2) rfl)
set_option maxRecDepth 20000 in
theorem ml_793 : Cond.code yX10_begins cX10_begins 2 none ∈ wsL_law := inr_34 _ (List.mem_of_getElem? (i := 1) rfl)
set_option maxRecDepth 20000 in
theorem ml_792 : Cond.selects RX10 yX10_begins yX10_begins ∈ wsL_law := inr_34 _ (List.mem_of_getElem? (i := 0) rfl)
set_option maxRecDepth 20000 in
theorem ml_791 : Cond.instanceMethod yX10_begins ∈ wsL_law := inr_33 _ (List.mem_of_getElem? (i := 23) rfl)
set_option maxRecDepth 20000 in
theorem ml_790 : Cond.methodLink RX10 224 yX10_begins ∈ wsL_law := inr_33 _ (List.mem_of_getElem? (i := 22) rfl)
set_option maxRecDepth 20000 in
theorem ml_789 : Cond.code yX10_sumSqueaks cX10_sumSqueaks 3 (some .int) ∈ wsL_law := inr_33 _ (List.mem_of_getElem? (i := 21) rfl)
set_option maxRecDepth 20000 in
theorem ml_788 : Cond.selects RX10 yX10_sumSqueaks yX10_sumSqueaks ∈ wsL_law := inr_33 _ (List.mem_of_getElem? (i := 20) rfl)
set_option maxRecDepth 20000 in
theorem ml_787 : Cond.instanceMethod yX10_sumSqueaks ∈ wsL_law := inr_33 _ (List.mem_of_getElem? (i := 19) rfl)
set_option maxRecDepth 20000 in
theorem ml_786 : Cond.methodLink RX10 230 yX10_sumSqueaks ∈ wsL_law := inr_33 _ (List.mem_of_getElem? (i := 18) rfl)
set_option maxRecDepth 20000 in
theorem lp_wsX10_voice_r2 : ∀ w ∈ wsX10_voice_r2, w ∈ wsL_law := (List.forall_mem_cons.mpr ⟨ml_201, (List.forall_mem_cons.mpr ⟨ml_202, (List.forall_mem_cons.mpr ⟨ml_203, (List.forall_mem_cons.mpr ⟨ml_786, (List.forall_mem_cons.mpr ⟨ml_787, (List.forall_mem_cons.mpr ⟨ml_788, (List.forall_mem_cons.mpr ⟨ml_789, (List.forall_mem_cons.mpr ⟨ml_790, (List.forall_mem_cons.mpr ⟨ml_791, (List.forall_mem_cons.mpr ⟨ml_792, (List.forall_mem_cons.mpr ⟨ml_793, (List.forall_mem_cons.mpr ⟨ml_120, (List.forall_mem_cons.mpr ⟨ml_794, (List.forall_mem_cons.mpr ⟨ml_795, (List.forall_mem_cons.mpr ⟨ml_796, (List.forall_mem_cons.mpr ⟨ml_797, (List.forall_mem_cons.mpr ⟨ml_798, (List.forall_mem_cons.mpr ⟨ml_799, (List.forall_mem_cons.mpr ⟨ml_800, (List.forall_mem_cons.mpr ⟨ml_801, (List.forall_mem_cons.mpr ⟨ml_802, (List.forall_mem_cons.mpr ⟨ml_803, (List.forall_mem_cons.mpr ⟨ml_804, (List.forall_mem_cons.mpr ⟨ml_805, (fun _ h => absurd h List.not_mem_nil)⟩)⟩)⟩)⟩)⟩)⟩)⟩)⟩)⟩)⟩)⟩)⟩)⟩)⟩)⟩)⟩)⟩)⟩)⟩)⟩)⟩)⟩)⟩)⟩)
set_option maxRecDepth 20000 in
theorem ml_825 : Cond.code yX10_plainParts cX10_plainParts 4 (some .int) ∈ wsL_law := inr_35 _ (List.mem_of_getElem? (i := 9) rfl)
set_option maxRecDepth 20000 in
theorem ml_824 : Cond.selects RX10 yX10_plainParts yX10_plainParts ∈ wsL_law := inr_35 _ (List.mem_of_getElem? (i := 8) rfl)
set_option maxRecDepth 20000 in
theorem ml_823 : Cond.instanceMethod yX10_plainParts ∈ wsL_law := inr_35 _ (List.mem_of_getElem? (i := 7) rfl)
set_option maxRecDepth 20000 in
theorem ml_822 : Cond.methodLink RX10 251 yX10_plainParts ∈ wsL_law := inr_35 _ (List.mem_of_getElem? (i := 6) rfl)
set_option maxRecDepth 20000 in
theorem ml_821 : Cond.code yX10_partsBy cX10_partsBy 4 (some .int) ∈ wsL_law := inr_35 _ (List.mem_of_getElem? (i := 5) rfl)
set_option maxRecDepth 20000 in
theorem ml_820 : Cond.selects RX10 yX10_partsBy yX10_partsBy ∈ wsL_law := inr_35 _ (List.mem_of_getElem? (i := 4) rfl)
set_option maxRecDepth 20000 in
theorem ml_819 : Cond.instanceMethod yX10_partsBy ∈ wsL_law := inr_35 _ (List.mem_of_getElem? (i := 3) rfl)
set_option maxRecDepth 20000 in
theorem ml_818 : Cond.methodLink RX10 257 yX10_partsBy ∈ wsL_law := inr_35 _ (List.mem_of_getElem? (i := 2) rfl)
set_option maxRecDepth 20000 in
theorem ml_817 : Cond.code yX10_plainStays cX10_plainStays 3 (some .int) ∈ wsL_law := inr_35 _ (List.mem_of_getElem? (i := 1) rfl)
set_option maxRecDepth 20000 in
theorem ml_816 : Cond.selects RX10 yX10_plainStays yX10_plainStays ∈ wsL_law := inr_35 _ (List.mem_of_getElem? (i := 0) rfl)
set_option maxRecDepth 20000 in
theorem ml_815 : Cond.instanceMethod yX10_plainStays ∈ wsL_law := inr_34 _ (List.mem_of_getElem? (i := 23) rfl)
set_option maxRecDepth 20000 in
theorem ml_814 : Cond.methodLink RX10 245 yX10_plainStays ∈ wsL_law := inr_34 _ (List.mem_of_getElem? (i := 22) rfl)
set_option maxRecDepth 20000 in
theorem ml_813 : Cond.code yX10_stays cX10_stays 3 (some .int) ∈ wsL_law := inr_34 _ (List.mem_of_getElem? (i := 21) rfl)
set_option maxRecDepth 20000 in
theorem ml_812 : Cond.selects RX10 yX10_stays yX10_stays ∈ wsL_law := inr_34 _ (List.mem_of_getElem? (i := 20) rfl)
set_option maxRecDepth 20000 in
theorem ml_811 : Cond.instanceMethod yX10_stays ∈ wsL_law := inr_34 _ (List.mem_of_getElem? (i := 19) rfl)
set_option maxRecDepth 20000 in
theorem ml_810 : Cond.methodLink RX10 254 yX10_stays ∈ wsL_law := inr_34 _ (List.mem_of_getElem? (i := 18) rfl)
set_option maxRecDepth 20000 in
theorem ml_809 : Cond.code yX10_plainSmears cX10_plainSmears 3 (some .int) ∈ wsL_law := inr_34 _ (List.mem_of_getElem? (i := 17) rfl)
set_option maxRecDepth 20000 in
theorem ml_808 : Cond.selects RX10 yX10_plainSmears yX10_plainSmears ∈ wsL_law := inr_34 _ (List.mem_of_getElem? (i := 16) rfl)
set_option maxRecDepth 20000 in
theorem ml_807 : Cond.instanceMethod yX10_plainSmears ∈ wsL_law := inr_34 _ (List.mem_of_getElem? (i := 15) rfl)
set_option maxRecDepth 20000 in
theorem ml_806 : Cond.methodLink RX10 236 yX10_plainSmears ∈ wsL_law := inr_34 _ (List.mem_of_getElem? (i := 14) rfl)
set_option maxRecDepth 20000 in
theorem lp_wsX10_voice_r3 : ∀ w ∈ wsX10_voice_r3, w ∈ wsL_law := (List.forall_mem_cons.mpr ⟨ml_806, (List.forall_mem_cons.mpr ⟨ml_807, (List.forall_mem_cons.mpr ⟨ml_808, (List.forall_mem_cons.mpr ⟨ml_809, (List.forall_mem_cons.mpr ⟨ml_810, (List.forall_mem_cons.mpr ⟨ml_811, (List.forall_mem_cons.mpr ⟨ml_812, (List.forall_mem_cons.mpr ⟨ml_813, (List.forall_mem_cons.mpr ⟨ml_814, (List.forall_mem_cons.mpr ⟨ml_815, (List.forall_mem_cons.mpr ⟨ml_816, (List.forall_mem_cons.mpr ⟨ml_817, (List.forall_mem_cons.mpr ⟨ml_818, (List.forall_mem_cons.mpr ⟨ml_819, (List.forall_mem_cons.mpr ⟨ml_820, (List.forall_mem_cons.mpr ⟨ml_821, (List.forall_mem_cons.mpr ⟨ml_822, (List.forall_mem_cons.mpr ⟨ml_823, (List.forall_mem_cons.mpr ⟨ml_824, (List.forall_mem_cons.mpr ⟨ml_825, (fun _ h => absurd h List.not_mem_nil)⟩)⟩)⟩)⟩)⟩)⟩)⟩)⟩)⟩)⟩)⟩)⟩)⟩)⟩)⟩)⟩)⟩)⟩)⟩)⟩)
set_option maxRecDepth 20000 in
theorem lp_wsX10_voice : ∀ w ∈ wsX10_voice, w ∈ wsL_law := (List.forall_mem_cons.mpr ⟨ml_778, (List.forall_mem_append.mpr ⟨(List.forall_mem_append.mpr ⟨lp_wsX10_voice_r1, (List.forall_mem_append.mpr ⟨lp_wsX10_voice_r2, lp_wsX10_voice_r3⟩)⟩), inlX10⟩)⟩)
set_option maxRecDepth 20000 in
theorem ml_775 : Cond.methodLink RL 116 yX10_voice ∈ wsL_law := inr_33 _ (List.mem_of_getElem? (i := 7) rfl)
set_option maxRecDepth 20000 in
theorem ml_776 : Cond.instanceMethod yX10_voice ∈ wsL_law := inr_33 _ (List.mem_of_getElem? (i := 8) rfl)
set_option maxRecDepth 20000 in
theorem ml_777 : Cond.selects RX10 yX10_voice yX10_voice ∈ wsL_law := inr_33 _ (List.mem_of_getElem? (i := 9) rfl)
set_option maxRecDepth 20000 in
theorem gL_law_X10_voice : GoodIn wsL_law (wsV RL 116 RX10 yX10_voice wsX10_voice) := goodIn_sub (List.forall_mem_append.mpr ⟨List.forall_mem_cons.mpr ⟨ml_775, List.forall_mem_cons.mpr ⟨ml_776, List.forall_mem_cons.mpr ⟨ml_777, List.forall_mem_cons.mpr ⟨ml_5, (fun _ h => absurd h List.not_mem_nil)⟩⟩⟩⟩, lp_wsX10_voice⟩) (by decide +kernel)
set_option maxRecDepth 20000 in
theorem ml_829 : Cond.code yX9_body cX9_body 2 (some .int) ∈ wsL_law := inr_35 _ (List.mem_of_getElem? (i := 13) rfl)
set_option maxRecDepth 20000 in
theorem lp_wsX9_body : ∀ w ∈ wsX9_body, w ∈ wsL_law := (List.forall_mem_cons.mpr ⟨ml_829, (List.forall_mem_append.mpr ⟨(List.forall_mem_append.mpr ⟨(List.forall_mem_append.mpr ⟨(List.forall_mem_cons.mpr ⟨ml_33, (List.forall_mem_cons.mpr ⟨ml_128, (List.forall_mem_cons.mpr ⟨ml_129, (List.forall_mem_cons.mpr ⟨ml_2, (List.forall_mem_cons.mpr ⟨ml_130, (List.forall_mem_cons.mpr ⟨ml_131, (List.forall_mem_cons.mpr ⟨ml_132, (List.forall_mem_cons.mpr ⟨ml_133, (List.forall_mem_cons.mpr ⟨ml_134, (List.forall_mem_cons.mpr ⟨ml_37, (List.forall_mem_cons.mpr ⟨ml_135, (fun _ h => absurd h List.not_mem_nil)⟩)⟩)⟩)⟩)⟩)⟩)⟩)⟩)⟩)⟩)⟩), inlX9⟩), inlX8⟩), inlX6⟩)⟩)
set_option maxRecDepth 20000 in
theorem ml_826 : Cond.methodLink RL 117 yX9_body ∈ wsL_law := inr_35 _ (List.mem_of_getElem? (i := 10) rfl)
set_option maxRecDepth 20000 in
theorem ml_827 : Cond.instanceMethod yX9_body ∈ wsL_law := inr_35 _ (List.mem_of_getElem? (i := 11) rfl)
set_option maxRecDepth 20000 in
theorem ml_828 : Cond.selects RX9 yX9_body yX9_body ∈ wsL_law := inr_35 _ (List.mem_of_getElem? (i := 12) rfl)
set_option maxRecDepth 20000 in
theorem gL_law_X9_body : GoodIn wsL_law (wsV RL 117 RX9 yX9_body wsX9_body) := goodIn_sub (List.forall_mem_append.mpr ⟨List.forall_mem_cons.mpr ⟨ml_826, List.forall_mem_cons.mpr ⟨ml_827, List.forall_mem_cons.mpr ⟨ml_828, List.forall_mem_cons.mpr ⟨ml_2, (fun _ h => absurd h List.not_mem_nil)⟩⟩⟩⟩, lp_wsX9_body⟩) (by decide +kernel)
set_option maxRecDepth 20000 in
theorem ml_833 : Cond.code yX10_body cX10_body 2 (some .int) ∈ wsL_law := inr_35 _ (List.mem_of_getElem? (i := 17) rfl)
set_option maxRecDepth 20000 in
theorem lp_wsX10_body : ∀ w ∈ wsX10_body, w ∈ wsL_law := (List.forall_mem_cons.mpr ⟨ml_833, (List.forall_mem_append.mpr ⟨(List.forall_mem_cons.mpr ⟨ml_779, (List.forall_mem_cons.mpr ⟨ml_120, (List.forall_mem_cons.mpr ⟨ml_586, (List.forall_mem_cons.mpr ⟨ml_185, (List.forall_mem_cons.mpr ⟨ml_186, (List.forall_mem_cons.mpr ⟨ml_5, (List.forall_mem_cons.mpr ⟨ml_187, (List.forall_mem_cons.mpr ⟨ml_188, (List.forall_mem_cons.mpr ⟨ml_189, (List.forall_mem_cons.mpr ⟨ml_190, (List.forall_mem_cons.mpr ⟨ml_191, (List.forall_mem_cons.mpr ⟨ml_111, (List.forall_mem_cons.mpr ⟨ml_192, (fun _ h => absurd h List.not_mem_nil)⟩)⟩)⟩)⟩)⟩)⟩)⟩)⟩)⟩)⟩)⟩)⟩)⟩), inlX10⟩)⟩)
set_option maxRecDepth 20000 in
theorem ml_830 : Cond.methodLink RL 120 yX10_body ∈ wsL_law := inr_35 _ (List.mem_of_getElem? (i := 14) rfl)
set_option maxRecDepth 20000 in
theorem ml_831 : Cond.instanceMethod yX10_body ∈ wsL_law := inr_35 _ (List.mem_of_getElem? (i := 15) rfl)
set_option maxRecDepth 20000 in
theorem ml_832 : Cond.selects RX10 yX10_body yX10_body ∈ wsL_law := inr_35 _ (List.mem_of_getElem? (i := 16) rfl)
set_option maxRecDepth 20000 in
theorem gL_law_X10_body : GoodIn wsL_law (wsV RL 120 RX10 yX10_body wsX10_body) := goodIn_sub (List.forall_mem_append.mpr ⟨List.forall_mem_cons.mpr ⟨ml_830, List.forall_mem_cons.mpr ⟨ml_831, List.forall_mem_cons.mpr ⟨ml_832, List.forall_mem_cons.mpr ⟨ml_5, (fun _ h => absurd h List.not_mem_nil)⟩⟩⟩⟩, lp_wsX10_body⟩) (by decide +kernel)
set_option maxRecDepth 20000 in
theorem ml_837 : Cond.code yX9_sheet cX9_sheet 4 (some .int) ∈ wsL_law := inr_35 _ (List.mem_of_getElem? (i := 21) rfl)
set_option maxRecDepth 20000 in
theorem ml_842 : Cond.methodLink RX7 22 yX6_clear ∈ wsL_law := inr_36 _ (List.mem_of_getElem? (i := 2) rfl)
set_option maxRecDepth 20000 in
theorem ml_841 : Cond.code yX7_begin cX7_begin 4 none ∈ wsL_law := inr_36 _ (List.mem_of_getElem? (i := 1) rfl)
set_option maxRecDepth 20000 in
theorem ml_840 : Cond.selects RX7 yX7_begin yX7_begin ∈ wsL_law := inr_36 _ (List.mem_of_getElem? (i := 0) rfl)
set_option maxRecDepth 20000 in
theorem ml_839 : Cond.instanceMethod yX7_begin ∈ wsL_law := inr_35 _ (List.mem_of_getElem? (i := 23) rfl)
set_option maxRecDepth 20000 in
theorem ml_838 : Cond.methodLink RX9 264 yX7_begin ∈ wsL_law := inr_35 _ (List.mem_of_getElem? (i := 22) rfl)
set_option maxRecDepth 20000 in
theorem lp_wsX9_sheet_r1 : ∀ w ∈ wsX9_sheet_r1, w ∈ wsL_law := (List.forall_mem_cons.mpr ⟨ml_35, (List.forall_mem_cons.mpr ⟨ml_128, (List.forall_mem_cons.mpr ⟨ml_129, (List.forall_mem_cons.mpr ⟨ml_2, (List.forall_mem_cons.mpr ⟨ml_130, (List.forall_mem_cons.mpr ⟨ml_131, (List.forall_mem_cons.mpr ⟨ml_132, (List.forall_mem_cons.mpr ⟨ml_133, (List.forall_mem_cons.mpr ⟨ml_134, (List.forall_mem_cons.mpr ⟨ml_37, (List.forall_mem_cons.mpr ⟨ml_135, (List.forall_mem_cons.mpr ⟨ml_838, (List.forall_mem_cons.mpr ⟨ml_839, (List.forall_mem_cons.mpr ⟨ml_840, (List.forall_mem_cons.mpr ⟨ml_39, (List.forall_mem_cons.mpr ⟨ml_841, (List.forall_mem_cons.mpr ⟨ml_692, (List.forall_mem_cons.mpr ⟨ml_102, (List.forall_mem_cons.mpr ⟨ml_842, (List.forall_mem_cons.mpr ⟨ml_248, (List.forall_mem_cons.mpr ⟨ml_249, (List.forall_mem_cons.mpr ⟨ml_50, (List.forall_mem_cons.mpr ⟨ml_250, (List.forall_mem_cons.mpr ⟨ml_251, (fun _ h => absurd h List.not_mem_nil)⟩)⟩)⟩)⟩)⟩)⟩)⟩)⟩)⟩)⟩)⟩)⟩)⟩)⟩)⟩)⟩)⟩)⟩)⟩)⟩)⟩)⟩)⟩)⟩)
set_option maxRecDepth 20000 in
theorem ml_843 : Cond.methodLink RX7 25 yX6_add ∈ wsL_law := inr_36 _ (List.mem_of_getElem? (i := 3) rfl)
set_option maxRecDepth 20000 in
theorem lp_wsX9_sheet_r2 : ∀ w ∈ wsX9_sheet_r2, w ∈ wsL_law := (List.forall_mem_cons.mpr ⟨ml_843, (List.forall_mem_cons.mpr ⟨ml_253, (List.forall_mem_cons.mpr ⟨ml_254, (List.forall_mem_cons.mpr ⟨ml_255, (List.forall_mem_cons.mpr ⟨ml_67, (fun _ h => absurd h List.not_mem_nil)⟩)⟩)⟩)⟩)⟩)
set_option maxRecDepth 20000 in
theorem lp_wsX9_sheet : ∀ w ∈ wsX9_sheet, w ∈ wsL_law := (List.forall_mem_cons.mpr ⟨ml_837, (List.forall_mem_append.mpr ⟨(List.forall_mem_append.mpr ⟨(List.forall_mem_append.mpr ⟨(List.forall_mem_append.mpr ⟨lp_wsX9_sheet_r1, lp_wsX9_sheet_r2⟩), inlX9⟩), inlX7⟩), inlX6⟩)⟩)
set_option maxRecDepth 20000 in
theorem ml_834 : Cond.methodLink RL 121 yX9_sheet ∈ wsL_law := inr_35 _ (List.mem_of_getElem? (i := 18) rfl)
set_option maxRecDepth 20000 in
theorem ml_835 : Cond.instanceMethod yX9_sheet ∈ wsL_law := inr_35 _ (List.mem_of_getElem? (i := 19) rfl)
set_option maxRecDepth 20000 in
theorem ml_836 : Cond.selects RX9 yX9_sheet yX9_sheet ∈ wsL_law := inr_35 _ (List.mem_of_getElem? (i := 20) rfl)
set_option maxRecDepth 20000 in
theorem gL_law_X9_sheet : GoodIn wsL_law (wsV RL 121 RX9 yX9_sheet wsX9_sheet) := goodIn_sub (List.forall_mem_append.mpr ⟨List.forall_mem_cons.mpr ⟨ml_834, List.forall_mem_cons.mpr ⟨ml_835, List.forall_mem_cons.mpr ⟨ml_836, List.forall_mem_cons.mpr ⟨ml_2, (fun _ h => absurd h List.not_mem_nil)⟩⟩⟩⟩, lp_wsX9_sheet⟩) (by decide +kernel)
set_option maxRecDepth 20000 in
theorem ml_847 : Cond.code yX10_sheet cX10_sheet 5 (some .int) ∈ wsL_law := inr_36 _ (List.mem_of_getElem? (i := 7) rfl)
set_option maxRecDepth 20000 in
theorem lp_wsX10_sheet : ∀ w ∈ wsX10_sheet, w ∈ wsL_law := (List.forall_mem_cons.mpr ⟨ml_847, (List.forall_mem_append.mpr ⟨(List.forall_mem_cons.mpr ⟨ml_179, (List.forall_mem_cons.mpr ⟨ml_181, (List.forall_mem_cons.mpr ⟨ml_112, (List.forall_mem_cons.mpr ⟨ml_113, (List.forall_mem_cons.mpr ⟨ml_114, (List.forall_mem_cons.mpr ⟨ml_713, (List.forall_mem_cons.mpr ⟨ml_714, (List.forall_mem_cons.mpr ⟨ml_5, (List.forall_mem_cons.mpr ⟨ml_715, (List.forall_mem_cons.mpr ⟨ml_185, (List.forall_mem_cons.mpr ⟨ml_186, (List.forall_mem_cons.mpr ⟨ml_187, (List.forall_mem_cons.mpr ⟨ml_188, (List.forall_mem_cons.mpr ⟨ml_189, (List.forall_mem_cons.mpr ⟨ml_190, (List.forall_mem_cons.mpr ⟨ml_191, (List.forall_mem_cons.mpr ⟨ml_111, (List.forall_mem_cons.mpr ⟨ml_192, (fun _ h => absurd h List.not_mem_nil)⟩)⟩)⟩)⟩)⟩)⟩)⟩)⟩)⟩)⟩)⟩)⟩)⟩)⟩)⟩)⟩)⟩)⟩), inlX10⟩)⟩)
set_option maxRecDepth 20000 in
theorem ml_844 : Cond.methodLink RL 124 yX10_sheet ∈ wsL_law := inr_36 _ (List.mem_of_getElem? (i := 4) rfl)
set_option maxRecDepth 20000 in
theorem ml_845 : Cond.instanceMethod yX10_sheet ∈ wsL_law := inr_36 _ (List.mem_of_getElem? (i := 5) rfl)
set_option maxRecDepth 20000 in
theorem ml_846 : Cond.selects RX10 yX10_sheet yX10_sheet ∈ wsL_law := inr_36 _ (List.mem_of_getElem? (i := 6) rfl)
set_option maxRecDepth 20000 in
theorem gL_law_X10_sheet : GoodIn wsL_law (wsV RL 124 RX10 yX10_sheet wsX10_sheet) := goodIn_sub (List.forall_mem_append.mpr ⟨List.forall_mem_cons.mpr ⟨ml_844, List.forall_mem_cons.mpr ⟨ml_845, List.forall_mem_cons.mpr ⟨ml_846, List.forall_mem_cons.mpr ⟨ml_5, (fun _ h => absurd h List.not_mem_nil)⟩⟩⟩⟩, lp_wsX10_sheet⟩) (by decide +kernel)
set_option maxRecDepth 20000 in
theorem ml_851 : Cond.code yX9_put cX9_put 4 (some .int) ∈ wsL_law := inr_36 _ (List.mem_of_getElem? (i := 11) rfl)
set_option maxRecDepth 20000 in
theorem ml_855 : Cond.code yX7_lowestBits cX7_lowestBits 2 (some .int) ∈ wsL_law := inr_36 _ (List.mem_of_getElem? (i := 15) rfl)
set_option maxRecDepth 20000 in
theorem ml_854 : Cond.selects RX7 yX7_lowestBits yX7_lowestBits ∈ wsL_law := inr_36 _ (List.mem_of_getElem? (i := 14) rfl)
set_option maxRecDepth 20000 in
theorem ml_853 : Cond.instanceMethod yX7_lowestBits ∈ wsL_law := inr_36 _ (List.mem_of_getElem? (i := 13) rfl)
set_option maxRecDepth 20000 in
theorem ml_852 : Cond.methodLink RX9 268 yX7_lowestBits ∈ wsL_law := inr_36 _ (List.mem_of_getElem? (i := 12) rfl)
set_option maxRecDepth 20000 in
theorem lp_wsX9_put : ∀ w ∈ wsX9_put, w ∈ wsL_law := (List.forall_mem_cons.mpr ⟨ml_851, (List.forall_mem_append.mpr ⟨(List.forall_mem_append.mpr ⟨(List.forall_mem_append.mpr ⟨(List.forall_mem_cons.mpr ⟨ml_35, (List.forall_mem_cons.mpr ⟨ml_128, (List.forall_mem_cons.mpr ⟨ml_129, (List.forall_mem_cons.mpr ⟨ml_2, (List.forall_mem_cons.mpr ⟨ml_130, (List.forall_mem_cons.mpr ⟨ml_131, (List.forall_mem_cons.mpr ⟨ml_132, (List.forall_mem_cons.mpr ⟨ml_133, (List.forall_mem_cons.mpr ⟨ml_134, (List.forall_mem_cons.mpr ⟨ml_37, (List.forall_mem_cons.mpr ⟨ml_135, (List.forall_mem_cons.mpr ⟨ml_688, (List.forall_mem_cons.mpr ⟨ml_689, (List.forall_mem_cons.mpr ⟨ml_690, (List.forall_mem_cons.mpr ⟨ml_39, (List.forall_mem_cons.mpr ⟨ml_691, (List.forall_mem_cons.mpr ⟨ml_692, (List.forall_mem_cons.mpr ⟨ml_852, (List.forall_mem_cons.mpr ⟨ml_853, (List.forall_mem_cons.mpr ⟨ml_854, (List.forall_mem_cons.mpr ⟨ml_855, (fun _ h => absurd h List.not_mem_nil)⟩)⟩)⟩)⟩)⟩)⟩)⟩)⟩)⟩)⟩)⟩)⟩)⟩)⟩)⟩)⟩)⟩)⟩)⟩)⟩)⟩), inlX9⟩), inlX7⟩), inlX6⟩)⟩)
set_option maxRecDepth 20000 in
theorem ml_848 : Cond.methodLink RL 125 yX9_put ∈ wsL_law := inr_36 _ (List.mem_of_getElem? (i := 8) rfl)
set_option maxRecDepth 20000 in
theorem ml_849 : Cond.instanceMethod yX9_put ∈ wsL_law := inr_36 _ (List.mem_of_getElem? (i := 9) rfl)
set_option maxRecDepth 20000 in
theorem ml_850 : Cond.selects RX9 yX9_put yX9_put ∈ wsL_law := inr_36 _ (List.mem_of_getElem? (i := 10) rfl)
set_option maxRecDepth 20000 in
theorem gL_law_X9_put : GoodIn wsL_law (wsV RL 125 RX9 yX9_put wsX9_put) := goodIn_sub (List.forall_mem_append.mpr ⟨List.forall_mem_cons.mpr ⟨ml_848, List.forall_mem_cons.mpr ⟨ml_849, List.forall_mem_cons.mpr ⟨ml_850, List.forall_mem_cons.mpr ⟨ml_2, (fun _ h => absurd h List.not_mem_nil)⟩⟩⟩⟩, lp_wsX9_put⟩) (by decide +kernel)
set_option maxRecDepth 20000 in
theorem ml_859 : Cond.code yX10_put cX10_put 5 (some .int) ∈ wsL_law := inr_36 _ (List.mem_of_getElem? (i := 19) rfl)
set_option maxRecDepth 20000 in
theorem lp_wsX10_put : ∀ w ∈ wsX10_put, w ∈ wsL_law := (List.forall_mem_cons.mpr ⟨ml_859, (List.forall_mem_append.mpr ⟨(List.forall_mem_cons.mpr ⟨ml_113, (List.forall_mem_cons.mpr ⟨ml_179, (List.forall_mem_cons.mpr ⟨ml_114, (List.forall_mem_cons.mpr ⟨ml_112, (List.forall_mem_cons.mpr ⟨ml_709, (List.forall_mem_cons.mpr ⟨ml_710, (List.forall_mem_cons.mpr ⟨ml_711, (List.forall_mem_cons.mpr ⟨ml_5, (List.forall_mem_cons.mpr ⟨ml_712, (List.forall_mem_cons.mpr ⟨ml_586, (List.forall_mem_cons.mpr ⟨ml_713, (List.forall_mem_cons.mpr ⟨ml_714, (List.forall_mem_cons.mpr ⟨ml_715, (List.forall_mem_cons.mpr ⟨ml_185, (List.forall_mem_cons.mpr ⟨ml_186, (List.forall_mem_cons.mpr ⟨ml_187, (List.forall_mem_cons.mpr ⟨ml_188, (List.forall_mem_cons.mpr ⟨ml_189, (List.forall_mem_cons.mpr ⟨ml_190, (List.forall_mem_cons.mpr ⟨ml_191, (List.forall_mem_cons.mpr ⟨ml_111, (List.forall_mem_cons.mpr ⟨ml_192, (fun _ h => absurd h List.not_mem_nil)⟩)⟩)⟩)⟩)⟩)⟩)⟩)⟩)⟩)⟩)⟩)⟩)⟩)⟩)⟩)⟩)⟩)⟩)⟩)⟩)⟩)⟩), inlX10⟩)⟩)
set_option maxRecDepth 20000 in
theorem ml_856 : Cond.methodLink RL 128 yX10_put ∈ wsL_law := inr_36 _ (List.mem_of_getElem? (i := 16) rfl)
set_option maxRecDepth 20000 in
theorem ml_857 : Cond.instanceMethod yX10_put ∈ wsL_law := inr_36 _ (List.mem_of_getElem? (i := 17) rfl)
set_option maxRecDepth 20000 in
theorem ml_858 : Cond.selects RX10 yX10_put yX10_put ∈ wsL_law := inr_36 _ (List.mem_of_getElem? (i := 18) rfl)
set_option maxRecDepth 20000 in
theorem gL_law_X10_put : GoodIn wsL_law (wsV RL 128 RX10 yX10_put wsX10_put) := goodIn_sub (List.forall_mem_append.mpr ⟨List.forall_mem_cons.mpr ⟨ml_856, List.forall_mem_cons.mpr ⟨ml_857, List.forall_mem_cons.mpr ⟨ml_858, List.forall_mem_cons.mpr ⟨ml_5, (fun _ h => absurd h List.not_mem_nil)⟩⟩⟩⟩, lp_wsX10_put⟩) (by decide +kernel)
set_option maxRecDepth 20000 in
theorem ml_863 : Cond.code yX9_move cX9_move 8 (some .int) ∈ wsL_law := inr_36 _ (List.mem_of_getElem? (i := 23) rfl)
set_option maxRecDepth 20000 in
theorem ml_870 : Cond.selects RX6 yX6_stands yX6_stands ∈ wsL_law := inr_37 _ (List.mem_of_getElem? (i := 6) rfl)
set_option maxRecDepth 20000 in
theorem ml_869 : Cond.instanceMethod yX6_stands ∈ wsL_law := inr_37 _ (List.mem_of_getElem? (i := 5) rfl)
set_option maxRecDepth 20000 in
theorem ml_868 : Cond.methodLink RX9 274 yX6_stands ∈ wsL_law := inr_37 _ (List.mem_of_getElem? (i := 4) rfl)
set_option maxRecDepth 20000 in
theorem ml_867 : Cond.initialized "java/lang/System" ∈ wsL_law := inr_37 _ (List.mem_of_getElem? (i := 3) rfl)
set_option maxRecDepth 20000 in
theorem ml_866 : Cond.static arraycopyName ∈ wsL_law := inr_37 _ (List.mem_of_getElem? (i := 2) rfl)
set_option maxRecDepth 20000 in
theorem ml_865 : Cond.native arraycopyName ∈ wsL_law := inr_37 _ (List.mem_of_getElem? (i := 1) rfl)
set_option maxRecDepth 20000 in
theorem ml_864 : Cond.methodLink RX9 277 arraycopyName ∈ wsL_law := inr_37 _ (List.mem_of_getElem? (i := 0) rfl)
set_option maxRecDepth 20000 in
theorem lp_wsX9_move_r1 : ∀ w ∈ wsX9_move_r1, w ∈ wsL_law := (List.forall_mem_cons.mpr ⟨ml_35, (List.forall_mem_cons.mpr ⟨ml_864, (List.forall_mem_cons.mpr ⟨ml_865, (List.forall_mem_cons.mpr ⟨ml_866, (List.forall_mem_cons.mpr ⟨ml_867, (List.forall_mem_cons.mpr ⟨ml_128, (List.forall_mem_cons.mpr ⟨ml_129, (List.forall_mem_cons.mpr ⟨ml_2, (List.forall_mem_cons.mpr ⟨ml_130, (List.forall_mem_cons.mpr ⟨ml_131, (List.forall_mem_cons.mpr ⟨ml_132, (List.forall_mem_cons.mpr ⟨ml_133, (List.forall_mem_cons.mpr ⟨ml_134, (List.forall_mem_cons.mpr ⟨ml_37, (List.forall_mem_cons.mpr ⟨ml_135, (List.forall_mem_cons.mpr ⟨ml_688, (List.forall_mem_cons.mpr ⟨ml_689, (List.forall_mem_cons.mpr ⟨ml_690, (List.forall_mem_cons.mpr ⟨ml_39, (List.forall_mem_cons.mpr ⟨ml_691, (List.forall_mem_cons.mpr ⟨ml_692, (List.forall_mem_cons.mpr ⟨ml_868, (List.forall_mem_cons.mpr ⟨ml_869, (List.forall_mem_cons.mpr ⟨ml_870, (fun _ h => absurd h List.not_mem_nil)⟩)⟩)⟩)⟩)⟩)⟩)⟩)⟩)⟩)⟩)⟩)⟩)⟩)⟩)⟩)⟩)⟩)⟩)⟩)⟩)⟩)⟩)⟩)⟩)
set_option maxRecDepth 20000 in
theorem ml_871 : Cond.code yX6_stands cX6_stands 3 (some .boolean) ∈ wsL_law := inr_37 _ (List.mem_of_getElem? (i := 7) rfl)
set_option maxRecDepth 20000 in
theorem lp_wsX9_move_r2 : ∀ w ∈ wsX9_move_r2, w ∈ wsL_law := (List.forall_mem_cons.mpr ⟨ml_50, (List.forall_mem_cons.mpr ⟨ml_871, (List.forall_mem_cons.mpr ⟨ml_251, (fun _ h => absurd h List.not_mem_nil)⟩)⟩)⟩)
set_option maxRecDepth 20000 in
theorem lp_wsX9_move : ∀ w ∈ wsX9_move, w ∈ wsL_law := (List.forall_mem_cons.mpr ⟨ml_863, (List.forall_mem_append.mpr ⟨(List.forall_mem_append.mpr ⟨(List.forall_mem_append.mpr ⟨(List.forall_mem_append.mpr ⟨lp_wsX9_move_r1, lp_wsX9_move_r2⟩), inlX9⟩), inlX7⟩), inlX6⟩)⟩)
set_option maxRecDepth 20000 in
theorem ml_860 : Cond.methodLink RL 129 yX9_move ∈ wsL_law := inr_36 _ (List.mem_of_getElem? (i := 20) rfl)
set_option maxRecDepth 20000 in
theorem ml_861 : Cond.instanceMethod yX9_move ∈ wsL_law := inr_36 _ (List.mem_of_getElem? (i := 21) rfl)
set_option maxRecDepth 20000 in
theorem ml_862 : Cond.selects RX9 yX9_move yX9_move ∈ wsL_law := inr_36 _ (List.mem_of_getElem? (i := 22) rfl)
set_option maxRecDepth 20000 in
theorem gL_law_X9_move : GoodIn wsL_law (wsV RL 129 RX9 yX9_move wsX9_move) := goodIn_sub (List.forall_mem_append.mpr ⟨List.forall_mem_cons.mpr ⟨ml_860, List.forall_mem_cons.mpr ⟨ml_861, List.forall_mem_cons.mpr ⟨ml_862, List.forall_mem_cons.mpr ⟨ml_2, (fun _ h => absurd h List.not_mem_nil)⟩⟩⟩⟩, lp_wsX9_move⟩) (by decide +kernel)
set_option maxRecDepth 20000 in
theorem ml_875 : Cond.code yX10_move cX10_move 9 (some .int) ∈ wsL_law := inr_37 _ (List.mem_of_getElem? (i := 11) rfl)
set_option maxRecDepth 20000 in
theorem ml_879 : Cond.code yX10_notMoved cX10_notMoved 7 (some .int) ∈ wsL_law := inr_37 _ (List.mem_of_getElem? (i := 15) rfl)
set_option maxRecDepth 20000 in
theorem ml_878 : Cond.selects RX10 yX10_notMoved yX10_notMoved ∈ wsL_law := inr_37 _ (List.mem_of_getElem? (i := 14) rfl)
set_option maxRecDepth 20000 in
theorem ml_877 : Cond.instanceMethod yX10_notMoved ∈ wsL_law := inr_37 _ (List.mem_of_getElem? (i := 13) rfl)
set_option maxRecDepth 20000 in
theorem ml_876 : Cond.methodLink RX10 264 yX10_notMoved ∈ wsL_law := inr_37 _ (List.mem_of_getElem? (i := 12) rfl)
set_option maxRecDepth 20000 in
theorem lp_wsX10_move : ∀ w ∈ wsX10_move, w ∈ wsL_law := (List.forall_mem_cons.mpr ⟨ml_875, (List.forall_mem_append.mpr ⟨(List.forall_mem_cons.mpr ⟨ml_114, (List.forall_mem_cons.mpr ⟨ml_876, (List.forall_mem_cons.mpr ⟨ml_877, (List.forall_mem_cons.mpr ⟨ml_878, (List.forall_mem_cons.mpr ⟨ml_5, (List.forall_mem_cons.mpr ⟨ml_879, (List.forall_mem_cons.mpr ⟨ml_179, (List.forall_mem_cons.mpr ⟨ml_112, (List.forall_mem_cons.mpr ⟨ml_586, (List.forall_mem_cons.mpr ⟨ml_321, (List.forall_mem_cons.mpr ⟨ml_113, (List.forall_mem_cons.mpr ⟨ml_713, (List.forall_mem_cons.mpr ⟨ml_714, (List.forall_mem_cons.mpr ⟨ml_715, (List.forall_mem_cons.mpr ⟨ml_185, (List.forall_mem_cons.mpr ⟨ml_186, (List.forall_mem_cons.mpr ⟨ml_187, (List.forall_mem_cons.mpr ⟨ml_188, (List.forall_mem_cons.mpr ⟨ml_189, (List.forall_mem_cons.mpr ⟨ml_190, (List.forall_mem_cons.mpr ⟨ml_191, (List.forall_mem_cons.mpr ⟨ml_111, (List.forall_mem_cons.mpr ⟨ml_192, (fun _ h => absurd h List.not_mem_nil)⟩)⟩)⟩)⟩)⟩)⟩)⟩)⟩)⟩)⟩)⟩)⟩)⟩)⟩)⟩)⟩)⟩)⟩)⟩)⟩)⟩)⟩)⟩), inlX10⟩)⟩)
set_option maxRecDepth 20000 in
theorem ml_872 : Cond.methodLink RL 133 yX10_move ∈ wsL_law := inr_37 _ (List.mem_of_getElem? (i := 8) rfl)
set_option maxRecDepth 20000 in
theorem ml_873 : Cond.instanceMethod yX10_move ∈ wsL_law := inr_37 _ (List.mem_of_getElem? (i := 9) rfl)
set_option maxRecDepth 20000 in
theorem ml_874 : Cond.selects RX10 yX10_move yX10_move ∈ wsL_law := inr_37 _ (List.mem_of_getElem? (i := 10) rfl)
set_option maxRecDepth 20000 in
theorem gL_law_X10_move : GoodIn wsL_law (wsV RL 133 RX10 yX10_move wsX10_move) := goodIn_sub (List.forall_mem_append.mpr ⟨List.forall_mem_cons.mpr ⟨ml_872, List.forall_mem_cons.mpr ⟨ml_873, List.forall_mem_cons.mpr ⟨ml_874, List.forall_mem_cons.mpr ⟨ml_5, (fun _ h => absurd h List.not_mem_nil)⟩⟩⟩⟩, lp_wsX10_move⟩) (by decide +kernel)
set_option maxRecDepth 20000 in
theorem ml_883 : Cond.code yX9_dates cX9_dates 4 (some .int) ∈ wsL_law := inr_37 _ (List.mem_of_getElem? (i := 19) rfl)
set_option maxRecDepth 20000 in
theorem lp_wsX9_dates : ∀ w ∈ wsX9_dates, w ∈ wsL_law := (List.forall_mem_cons.mpr ⟨ml_883, (List.forall_mem_append.mpr ⟨(List.forall_mem_append.mpr ⟨(List.forall_mem_append.mpr ⟨(List.forall_mem_append.mpr ⟨(List.forall_mem_append.mpr ⟨(List.forall_mem_cons.mpr ⟨ml_35, (List.forall_mem_cons.mpr ⟨ml_16, (List.forall_mem_cons.mpr ⟨ml_128, (List.forall_mem_cons.mpr ⟨ml_129, (List.forall_mem_cons.mpr ⟨ml_2, (List.forall_mem_cons.mpr ⟨ml_130, (List.forall_mem_cons.mpr ⟨ml_131, (List.forall_mem_cons.mpr ⟨ml_132, (List.forall_mem_cons.mpr ⟨ml_133, (List.forall_mem_cons.mpr ⟨ml_134, (List.forall_mem_cons.mpr ⟨ml_37, (List.forall_mem_cons.mpr ⟨ml_135, (List.forall_mem_cons.mpr ⟨ml_688, (List.forall_mem_cons.mpr ⟨ml_689, (List.forall_mem_cons.mpr ⟨ml_690, (List.forall_mem_cons.mpr ⟨ml_39, (List.forall_mem_cons.mpr ⟨ml_691, (List.forall_mem_cons.mpr ⟨ml_692, (List.forall_mem_cons.mpr ⟨ml_216, (List.forall_mem_cons.mpr ⟨ml_217, (List.forall_mem_cons.mpr ⟨ml_218, (List.forall_mem_cons.mpr ⟨ml_15, (List.forall_mem_cons.mpr ⟨ml_219, (List.forall_mem_cons.mpr ⟨ml_147, (fun _ h => absurd h List.not_mem_nil)⟩)⟩)⟩)⟩)⟩)⟩)⟩)⟩)⟩)⟩)⟩)⟩)⟩)⟩)⟩)⟩)⟩)⟩)⟩)⟩)⟩)⟩)⟩)⟩), inlX9⟩), inlX7⟩), inlX6⟩), inlX0⟩), inlX2⟩)⟩)
set_option maxRecDepth 20000 in
theorem ml_880 : Cond.methodLink RL 134 yX9_dates ∈ wsL_law := inr_37 _ (List.mem_of_getElem? (i := 16) rfl)
set_option maxRecDepth 20000 in
theorem ml_881 : Cond.instanceMethod yX9_dates ∈ wsL_law := inr_37 _ (List.mem_of_getElem? (i := 17) rfl)
set_option maxRecDepth 20000 in
theorem ml_882 : Cond.selects RX9 yX9_dates yX9_dates ∈ wsL_law := inr_37 _ (List.mem_of_getElem? (i := 18) rfl)
set_option maxRecDepth 20000 in
theorem gL_law_X9_dates : GoodIn wsL_law (wsV RL 134 RX9 yX9_dates wsX9_dates) := goodIn_sub (List.forall_mem_append.mpr ⟨List.forall_mem_cons.mpr ⟨ml_880, List.forall_mem_cons.mpr ⟨ml_881, List.forall_mem_cons.mpr ⟨ml_882, List.forall_mem_cons.mpr ⟨ml_2, (fun _ h => absurd h List.not_mem_nil)⟩⟩⟩⟩, lp_wsX9_dates⟩) (by decide +kernel)
set_option maxRecDepth 20000 in
theorem ml_887 : Cond.code yX10_dates cX10_dates 4 (some .int) ∈ wsL_law := inr_37 _ (List.mem_of_getElem? (i := 23) rfl)
set_option maxRecDepth 20000 in
theorem lp_wsX10_dates_r1 : ∀ w ∈ wsX10_dates_r1, w ∈ wsL_law := (List.forall_mem_cons.mpr ⟨ml_113, (List.forall_mem_cons.mpr ⟨ml_108, (List.forall_mem_cons.mpr ⟨ml_114, (List.forall_mem_cons.mpr ⟨ml_709, (List.forall_mem_cons.mpr ⟨ml_710, (List.forall_mem_cons.mpr ⟨ml_711, (List.forall_mem_cons.mpr ⟨ml_5, (List.forall_mem_cons.mpr ⟨ml_712, (List.forall_mem_cons.mpr ⟨ml_179, (List.forall_mem_cons.mpr ⟨ml_112, (List.forall_mem_cons.mpr ⟨ml_586, (List.forall_mem_cons.mpr ⟨ml_713, (List.forall_mem_cons.mpr ⟨ml_714, (List.forall_mem_cons.mpr ⟨ml_715, (List.forall_mem_cons.mpr ⟨ml_185, (List.forall_mem_cons.mpr ⟨ml_186, (List.forall_mem_cons.mpr ⟨ml_187, (List.forall_mem_cons.mpr ⟨ml_188, (List.forall_mem_cons.mpr ⟨ml_189, (List.forall_mem_cons.mpr ⟨ml_190, (List.forall_mem_cons.mpr ⟨ml_191, (List.forall_mem_cons.mpr ⟨ml_111, (List.forall_mem_cons.mpr ⟨ml_192, (List.forall_mem_cons.mpr ⟨ml_208, (fun _ h => absurd h List.not_mem_nil)⟩)⟩)⟩)⟩)⟩)⟩)⟩)⟩)⟩)⟩)⟩)⟩)⟩)⟩)⟩)⟩)⟩)⟩)⟩)⟩)⟩)⟩)⟩)⟩)
set_option maxRecDepth 20000 in
theorem lp_wsX10_dates_r2 : ∀ w ∈ wsX10_dates_r2, w ∈ wsL_law := (List.forall_mem_cons.mpr ⟨ml_209, (List.forall_mem_cons.mpr ⟨ml_210, (List.forall_mem_cons.mpr ⟨ml_211, (fun _ h => absurd h List.not_mem_nil)⟩)⟩)⟩)
set_option maxRecDepth 20000 in
theorem lp_wsX10_dates : ∀ w ∈ wsX10_dates, w ∈ wsL_law := (List.forall_mem_cons.mpr ⟨ml_887, (List.forall_mem_append.mpr ⟨(List.forall_mem_append.mpr ⟨lp_wsX10_dates_r1, lp_wsX10_dates_r2⟩), inlX10⟩)⟩)
set_option maxRecDepth 20000 in
theorem ml_884 : Cond.methodLink RL 137 yX10_dates ∈ wsL_law := inr_37 _ (List.mem_of_getElem? (i := 20) rfl)
set_option maxRecDepth 20000 in
theorem ml_885 : Cond.instanceMethod yX10_dates ∈ wsL_law := inr_37 _ (List.mem_of_getElem? (i := 21) rfl)
set_option maxRecDepth 20000 in
theorem ml_886 : Cond.selects RX10 yX10_dates yX10_dates ∈ wsL_law := inr_37 _ (List.mem_of_getElem? (i := 22) rfl)
set_option maxRecDepth 20000 in
theorem gL_law_X10_dates : GoodIn wsL_law (wsV RL 137 RX10 yX10_dates wsX10_dates) := goodIn_sub (List.forall_mem_append.mpr ⟨List.forall_mem_cons.mpr ⟨ml_884, List.forall_mem_cons.mpr ⟨ml_885, List.forall_mem_cons.mpr ⟨ml_886, List.forall_mem_cons.mpr ⟨ml_5, (fun _ h => absurd h List.not_mem_nil)⟩⟩⟩⟩, lp_wsX10_dates⟩) (by decide +kernel)
set_option maxRecDepth 20000 in
theorem ml_891 : Cond.code yX9_judge cX9_judge 4 (some .int) ∈ wsL_law := inr_38 _ (List.mem_of_getElem? (i := 3) rfl)
set_option maxRecDepth 20000 in
theorem lp_wsX9_judge_r1 : ∀ w ∈ wsX9_judge_r1, w ∈ wsL_law := (List.forall_mem_cons.mpr ⟨ml_35, (List.forall_mem_cons.mpr ⟨ml_16, (List.forall_mem_cons.mpr ⟨ml_128, (List.forall_mem_cons.mpr ⟨ml_129, (List.forall_mem_cons.mpr ⟨ml_2, (List.forall_mem_cons.mpr ⟨ml_130, (List.forall_mem_cons.mpr ⟨ml_131, (List.forall_mem_cons.mpr ⟨ml_132, (List.forall_mem_cons.mpr ⟨ml_133, (List.forall_mem_cons.mpr ⟨ml_134, (List.forall_mem_cons.mpr ⟨ml_37, (List.forall_mem_cons.mpr ⟨ml_135, (List.forall_mem_cons.mpr ⟨ml_688, (List.forall_mem_cons.mpr ⟨ml_689, (List.forall_mem_cons.mpr ⟨ml_690, (List.forall_mem_cons.mpr ⟨ml_39, (List.forall_mem_cons.mpr ⟨ml_691, (List.forall_mem_cons.mpr ⟨ml_692, (List.forall_mem_cons.mpr ⟨ml_216, (List.forall_mem_cons.mpr ⟨ml_217, (List.forall_mem_cons.mpr ⟨ml_218, (List.forall_mem_cons.mpr ⟨ml_15, (List.forall_mem_cons.mpr ⟨ml_219, (List.forall_mem_cons.mpr ⟨ml_147, (fun _ h => absurd h List.not_mem_nil)⟩)⟩)⟩)⟩)⟩)⟩)⟩)⟩)⟩)⟩)⟩)⟩)⟩)⟩)⟩)⟩)⟩)⟩)⟩)⟩)⟩)⟩)⟩)⟩)
set_option maxRecDepth 20000 in
theorem lp_wsX9_judge_r2 : ∀ w ∈ wsX9_judge_r2, w ∈ wsL_law := (List.forall_mem_cons.mpr ⟨ml_224, (List.forall_mem_cons.mpr ⟨ml_225, (List.forall_mem_cons.mpr ⟨ml_226, (List.forall_mem_cons.mpr ⟨ml_58, (List.forall_mem_cons.mpr ⟨ml_227, (List.forall_mem_cons.mpr ⟨ml_156, (List.forall_mem_cons.mpr ⟨ml_157, (List.forall_mem_cons.mpr ⟨ml_64, (List.forall_mem_cons.mpr ⟨ml_65, (List.forall_mem_cons.mpr ⟨ml_66, (List.forall_mem_cons.mpr ⟨ml_163, (List.forall_mem_cons.mpr ⟨ml_162, (List.forall_mem_cons.mpr ⟨ml_174, (List.forall_mem_cons.mpr ⟨ml_228, (List.forall_mem_cons.mpr ⟨ml_229, (List.forall_mem_cons.mpr ⟨ml_230, (List.forall_mem_cons.mpr ⟨ml_231, (List.forall_mem_cons.mpr ⟨ml_232, (List.forall_mem_cons.mpr ⟨ml_233, (fun _ h => absurd h List.not_mem_nil)⟩)⟩)⟩)⟩)⟩)⟩)⟩)⟩)⟩)⟩)⟩)⟩)⟩)⟩)⟩)⟩)⟩)⟩)⟩)
set_option maxRecDepth 20000 in
theorem lp_wsX9_judge : ∀ w ∈ wsX9_judge, w ∈ wsL_law := (List.forall_mem_cons.mpr ⟨ml_891, (List.forall_mem_append.mpr ⟨(List.forall_mem_append.mpr ⟨(List.forall_mem_append.mpr ⟨(List.forall_mem_append.mpr ⟨(List.forall_mem_append.mpr ⟨(List.forall_mem_append.mpr ⟨lp_wsX9_judge_r1, lp_wsX9_judge_r2⟩), inlX9⟩), inlX7⟩), inlX6⟩), inlX0⟩), inlX2⟩)⟩)
set_option maxRecDepth 20000 in
theorem ml_888 : Cond.methodLink RL 138 yX9_judge ∈ wsL_law := inr_38 _ (List.mem_of_getElem? (i := 0) rfl)
set_option maxRecDepth 20000 in
theorem ml_889 : Cond.instanceMethod yX9_judge ∈ wsL_law := inr_38 _ (List.mem_of_getElem? (i := 1) rfl)
set_option maxRecDepth 20000 in
theorem ml_890 : Cond.selects RX9 yX9_judge yX9_judge ∈ wsL_law := inr_38 _ (List.mem_of_getElem? (i := 2) rfl)
set_option maxRecDepth 20000 in
theorem gL_law_X9_judge : GoodIn wsL_law (wsV RL 138 RX9 yX9_judge wsX9_judge) := goodIn_sub (List.forall_mem_append.mpr ⟨List.forall_mem_cons.mpr ⟨ml_888, List.forall_mem_cons.mpr ⟨ml_889, List.forall_mem_cons.mpr ⟨ml_890, List.forall_mem_cons.mpr ⟨ml_2, (fun _ h => absurd h List.not_mem_nil)⟩⟩⟩⟩, lp_wsX9_judge⟩) (by decide +kernel)
set_option maxRecDepth 20000 in
theorem ml_895 : Cond.code yX10_judge cX10_judge 4 (some .int) ∈ wsL_law := inr_38 _ (List.mem_of_getElem? (i := 7) rfl)
set_option maxRecDepth 20000 in
theorem lp_wsX10_judge_r1 : ∀ w ∈ wsX10_judge_r1, w ∈ wsL_law := (List.forall_mem_cons.mpr ⟨ml_113, (List.forall_mem_cons.mpr ⟨ml_108, (List.forall_mem_cons.mpr ⟨ml_114, (List.forall_mem_cons.mpr ⟨ml_709, (List.forall_mem_cons.mpr ⟨ml_710, (List.forall_mem_cons.mpr ⟨ml_711, (List.forall_mem_cons.mpr ⟨ml_5, (List.forall_mem_cons.mpr ⟨ml_712, (List.forall_mem_cons.mpr ⟨ml_179, (List.forall_mem_cons.mpr ⟨ml_112, (List.forall_mem_cons.mpr ⟨ml_586, (List.forall_mem_cons.mpr ⟨ml_713, (List.forall_mem_cons.mpr ⟨ml_714, (List.forall_mem_cons.mpr ⟨ml_715, (List.forall_mem_cons.mpr ⟨ml_185, (List.forall_mem_cons.mpr ⟨ml_186, (List.forall_mem_cons.mpr ⟨ml_187, (List.forall_mem_cons.mpr ⟨ml_188, (List.forall_mem_cons.mpr ⟨ml_189, (List.forall_mem_cons.mpr ⟨ml_190, (List.forall_mem_cons.mpr ⟨ml_191, (List.forall_mem_cons.mpr ⟨ml_111, (List.forall_mem_cons.mpr ⟨ml_192, (List.forall_mem_cons.mpr ⟨ml_275, (fun _ h => absurd h List.not_mem_nil)⟩)⟩)⟩)⟩)⟩)⟩)⟩)⟩)⟩)⟩)⟩)⟩)⟩)⟩)⟩)⟩)⟩)⟩)⟩)⟩)⟩)⟩)⟩)⟩)
set_option maxRecDepth 20000 in
theorem lp_wsX10_judge_r2 : ∀ w ∈ wsX10_judge_r2, w ∈ wsL_law := (List.forall_mem_cons.mpr ⟨ml_276, (List.forall_mem_cons.mpr ⟨ml_277, (List.forall_mem_cons.mpr ⟨ml_278, (List.forall_mem_cons.mpr ⟨ml_200, (List.forall_mem_cons.mpr ⟨ml_201, (List.forall_mem_cons.mpr ⟨ml_202, (List.forall_mem_cons.mpr ⟨ml_203, (List.forall_mem_cons.mpr ⟨ml_279, (List.forall_mem_cons.mpr ⟨ml_280, (List.forall_mem_cons.mpr ⟨ml_281, (fun _ h => absurd h List.not_mem_nil)⟩)⟩)⟩)⟩)⟩)⟩)⟩)⟩)⟩)⟩)
set_option maxRecDepth 20000 in
theorem lp_wsX10_judge : ∀ w ∈ wsX10_judge, w ∈ wsL_law := (List.forall_mem_cons.mpr ⟨ml_895, (List.forall_mem_append.mpr ⟨(List.forall_mem_append.mpr ⟨lp_wsX10_judge_r1, lp_wsX10_judge_r2⟩), inlX10⟩)⟩)
set_option maxRecDepth 20000 in
theorem ml_892 : Cond.methodLink RL 141 yX10_judge ∈ wsL_law := inr_38 _ (List.mem_of_getElem? (i := 4) rfl)
set_option maxRecDepth 20000 in
theorem ml_893 : Cond.instanceMethod yX10_judge ∈ wsL_law := inr_38 _ (List.mem_of_getElem? (i := 5) rfl)
set_option maxRecDepth 20000 in
theorem ml_894 : Cond.selects RX10 yX10_judge yX10_judge ∈ wsL_law := inr_38 _ (List.mem_of_getElem? (i := 6) rfl)
set_option maxRecDepth 20000 in
theorem gL_law_X10_judge : GoodIn wsL_law (wsV RL 141 RX10 yX10_judge wsX10_judge) := goodIn_sub (List.forall_mem_append.mpr ⟨List.forall_mem_cons.mpr ⟨ml_892, List.forall_mem_cons.mpr ⟨ml_893, List.forall_mem_cons.mpr ⟨ml_894, List.forall_mem_cons.mpr ⟨ml_5, (fun _ h => absurd h List.not_mem_nil)⟩⟩⟩⟩, lp_wsX10_judge⟩) (by decide +kernel)
set_option maxRecDepth 20000 in
theorem ml_899 : Cond.code yX9_image cX9_image 1 (some .int) ∈ wsL_law := inr_38 _ (List.mem_of_getElem? (i := 11) rfl)
set_option maxRecDepth 20000 in
theorem ml_907 : Cond.instanceMethod yX2_copyFrom ∈ wsL_law := inr_38 _ (List.mem_of_getElem? (i := 19) rfl)
set_option maxRecDepth 20000 in
theorem ml_906 : Cond.methodLink RX0 48 yX2_copyFrom ∈ wsL_law := inr_38 _ (List.mem_of_getElem? (i := 18) rfl)
set_option maxRecDepth 20000 in
theorem ml_905 : Cond.methodLink RX0 61 arraycopyName ∈ wsL_law := inr_38 _ (List.mem_of_getElem? (i := 17) rfl)
set_option maxRecDepth 20000 in
theorem ml_904 : Cond.code yX0_copyFrom cX0_copyFrom 3 none ∈ wsL_law := inr_38 _ (List.mem_of_getElem? (i := 16) rfl)
set_option maxRecDepth 20000 in
theorem ml_903 : Cond.selects RX0 yX0_copyFrom yX0_copyFrom ∈ wsL_law := inr_38 _ (List.mem_of_getElem? (i := 15) rfl)
set_option maxRecDepth 20000 in
theorem ml_902 : Cond.instanceMethod yX0_copyFrom ∈ wsL_law := inr_38 _ (List.mem_of_getElem? (i := 14) rfl)
set_option maxRecDepth 20000 in
theorem ml_901 : Cond.methodLink RX9 283 yX0_copyFrom ∈ wsL_law := inr_38 _ (List.mem_of_getElem? (i := 13) rfl)
set_option maxRecDepth 20000 in
theorem ml_900 : Cond.fieldLink RX9 287 "BoardKeep" "images" "I" ∈ wsL_law := inr_38 _ (List.mem_of_getElem? (i := 12) rfl)
set_option maxRecDepth 20000 in
theorem lp_wsX9_image_r1 : ∀ w ∈ wsX9_image_r1, w ∈ wsL_law := (List.forall_mem_cons.mpr ⟨ml_17, (List.forall_mem_cons.mpr ⟨ml_16, (List.forall_mem_cons.mpr ⟨ml_900, (List.forall_mem_cons.mpr ⟨ml_901, (List.forall_mem_cons.mpr ⟨ml_902, (List.forall_mem_cons.mpr ⟨ml_903, (List.forall_mem_cons.mpr ⟨ml_15, (List.forall_mem_cons.mpr ⟨ml_904, (List.forall_mem_cons.mpr ⟨ml_147, (List.forall_mem_cons.mpr ⟨ml_45, (List.forall_mem_cons.mpr ⟨ml_148, (List.forall_mem_cons.mpr ⟨ml_149, (List.forall_mem_cons.mpr ⟨ml_339, (List.forall_mem_cons.mpr ⟨ml_46, (List.forall_mem_cons.mpr ⟨ml_905, (List.forall_mem_cons.mpr ⟨ml_865, (List.forall_mem_cons.mpr ⟨ml_866, (List.forall_mem_cons.mpr ⟨ml_867, (List.forall_mem_cons.mpr ⟨ml_47, (List.forall_mem_cons.mpr ⟨ml_51, (List.forall_mem_cons.mpr ⟨ml_52, (List.forall_mem_cons.mpr ⟨ml_56, (List.forall_mem_cons.mpr ⟨ml_906, (List.forall_mem_cons.mpr ⟨ml_907, (fun _ h => absurd h List.not_mem_nil)⟩)⟩)⟩)⟩)⟩)⟩)⟩)⟩)⟩)⟩)⟩)⟩)⟩)⟩)⟩)⟩)⟩)⟩)⟩)⟩)⟩)⟩)⟩)⟩)
set_option maxRecDepth 20000 in
theorem ml_911 : Cond.methodLink RX0 67 yX6_copyFrom ∈ wsL_law := inr_38 _ (List.mem_of_getElem? (i := 23) rfl)
set_option maxRecDepth 20000 in
theorem ml_910 : Cond.methodLink RX2 34 yX2_begin ∈ wsL_law := inr_38 _ (List.mem_of_getElem? (i := 22) rfl)
set_option maxRecDepth 20000 in
theorem ml_909 : Cond.code yX2_copyFrom cX2_copyFrom 2 none ∈ wsL_law := inr_38 _ (List.mem_of_getElem? (i := 21) rfl)
set_option maxRecDepth 20000 in
theorem ml_908 : Cond.selects RX2 yX2_copyFrom yX2_copyFrom ∈ wsL_law := inr_38 _ (List.mem_of_getElem? (i := 20) rfl)
set_option maxRecDepth 20000 in
theorem lp_wsX9_image_r2 : ∀ w ∈ wsX9_image_r2, w ∈ wsL_law := (List.forall_mem_cons.mpr ⟨ml_908, (List.forall_mem_cons.mpr ⟨ml_58, (List.forall_mem_cons.mpr ⟨ml_909, (List.forall_mem_cons.mpr ⟨ml_162, (List.forall_mem_cons.mpr ⟨ml_163, (List.forall_mem_cons.mpr ⟨ml_172, (List.forall_mem_cons.mpr ⟨ml_173, (List.forall_mem_cons.mpr ⟨ml_156, (List.forall_mem_cons.mpr ⟨ml_174, (List.forall_mem_cons.mpr ⟨ml_154, (List.forall_mem_cons.mpr ⟨ml_910, (List.forall_mem_cons.mpr ⟨ml_169, (List.forall_mem_cons.mpr ⟨ml_170, (List.forall_mem_cons.mpr ⟨ml_171, (List.forall_mem_cons.mpr ⟨ml_911, (List.forall_mem_cons.mpr ⟨ml_431, (List.forall_mem_cons.mpr ⟨ml_432, (List.forall_mem_cons.mpr ⟨ml_50, (List.forall_mem_cons.mpr ⟨ml_433, (List.forall_mem_cons.mpr ⟨ml_251, (List.forall_mem_cons.mpr ⟨ml_67, (List.forall_mem_cons.mpr ⟨ml_434, (List.forall_mem_cons.mpr ⟨ml_248, (List.forall_mem_cons.mpr ⟨ml_249, (fun _ h => absurd h List.not_mem_nil)⟩)⟩)⟩)⟩)⟩)⟩)⟩)⟩)⟩)⟩)⟩)⟩)⟩)⟩)⟩)⟩)⟩)⟩)⟩)⟩)⟩)⟩)⟩)⟩)
set_option maxRecDepth 20000 in
theorem ml_915 : Cond.code yX1_copyFrom cX1_copyFrom 2 none ∈ wsL_law := inr_39 _ (List.mem_of_getElem? (i := 3) rfl)
set_option maxRecDepth 20000 in
theorem ml_914 : Cond.selects RX1 yX1_copyFrom yX1_copyFrom ∈ wsL_law := inr_39 _ (List.mem_of_getElem? (i := 2) rfl)
set_option maxRecDepth 20000 in
theorem ml_913 : Cond.instanceMethod yX1_copyFrom ∈ wsL_law := inr_39 _ (List.mem_of_getElem? (i := 1) rfl)
set_option maxRecDepth 20000 in
theorem ml_912 : Cond.methodLink RX0 70 yX1_copyFrom ∈ wsL_law := inr_39 _ (List.mem_of_getElem? (i := 0) rfl)
set_option maxRecDepth 20000 in
theorem lp_wsX9_image_r3 : ∀ w ∈ wsX9_image_r3, w ∈ wsL_law := (List.forall_mem_cons.mpr ⟨ml_250, (List.forall_mem_cons.mpr ⟨ml_435, (List.forall_mem_cons.mpr ⟨ml_253, (List.forall_mem_cons.mpr ⟨ml_254, (List.forall_mem_cons.mpr ⟨ml_255, (List.forall_mem_cons.mpr ⟨ml_912, (List.forall_mem_cons.mpr ⟨ml_913, (List.forall_mem_cons.mpr ⟨ml_914, (List.forall_mem_cons.mpr ⟨ml_55, (List.forall_mem_cons.mpr ⟨ml_915, (List.forall_mem_cons.mpr ⟨ml_72, (List.forall_mem_cons.mpr ⟨ml_429, (List.forall_mem_cons.mpr ⟨ml_430, (fun _ h => absurd h List.not_mem_nil)⟩)⟩)⟩)⟩)⟩)⟩)⟩)⟩)⟩)⟩)⟩)⟩)⟩)
set_option maxRecDepth 20000 in
theorem lp_wsX9_image : ∀ w ∈ wsX9_image, w ∈ wsL_law := (List.forall_mem_cons.mpr ⟨ml_899, (List.forall_mem_append.mpr ⟨(List.forall_mem_append.mpr ⟨(List.forall_mem_append.mpr ⟨(List.forall_mem_append.mpr ⟨(List.forall_mem_append.mpr ⟨(List.forall_mem_append.mpr ⟨lp_wsX9_image_r1, (List.forall_mem_append.mpr ⟨lp_wsX9_image_r2, lp_wsX9_image_r3⟩)⟩), inlX9⟩), inlX0⟩), inlX2⟩), inlX6⟩), inlX1⟩)⟩)
set_option maxRecDepth 20000 in
theorem ml_896 : Cond.methodLink RL 142 yX9_image ∈ wsL_law := inr_38 _ (List.mem_of_getElem? (i := 8) rfl)
set_option maxRecDepth 20000 in
theorem ml_897 : Cond.instanceMethod yX9_image ∈ wsL_law := inr_38 _ (List.mem_of_getElem? (i := 9) rfl)
set_option maxRecDepth 20000 in
theorem ml_898 : Cond.selects RX9 yX9_image yX9_image ∈ wsL_law := inr_38 _ (List.mem_of_getElem? (i := 10) rfl)
set_option maxRecDepth 20000 in
theorem gL_law_X9_image : GoodIn wsL_law (wsV RL 142 RX9 yX9_image wsX9_image) := goodIn_sub (List.forall_mem_append.mpr ⟨List.forall_mem_cons.mpr ⟨ml_896, List.forall_mem_cons.mpr ⟨ml_897, List.forall_mem_cons.mpr ⟨ml_898, List.forall_mem_cons.mpr ⟨ml_2, (fun _ h => absurd h List.not_mem_nil)⟩⟩⟩⟩, lp_wsX9_image⟩) (by decide +kernel)
set_option maxRecDepth 20000 in
theorem ml_919 : Cond.code yX10_image cX10_image 1 (some .int) ∈ wsL_law := inr_39 _ (List.mem_of_getElem? (i := 7) rfl)
set_option maxRecDepth 20000 in
theorem ml_920 : Cond.fieldLink RX10 268 "BoardKeepModel" "images" "I" ∈ wsL_law := inr_39 _ (List.mem_of_getElem? (i := 8) rfl)
set_option maxRecDepth 20000 in
theorem lp_wsX10_image : ∀ w ∈ wsX10_image, w ∈ wsL_law := (List.forall_mem_cons.mpr ⟨ml_919, (List.forall_mem_append.mpr ⟨(List.forall_mem_cons.mpr ⟨ml_108, (List.forall_mem_cons.mpr ⟨ml_109, (List.forall_mem_cons.mpr ⟨ml_920, (List.forall_mem_cons.mpr ⟨ml_673, (List.forall_mem_cons.mpr ⟨ml_674, (List.forall_mem_cons.mpr ⟨ml_5, (List.forall_mem_cons.mpr ⟨ml_675, (fun _ h => absurd h List.not_mem_nil)⟩)⟩)⟩)⟩)⟩)⟩)⟩), inlX10⟩)⟩)
set_option maxRecDepth 20000 in
theorem ml_916 : Cond.methodLink RL 146 yX10_image ∈ wsL_law := inr_39 _ (List.mem_of_getElem? (i := 4) rfl)
set_option maxRecDepth 20000 in
theorem ml_917 : Cond.instanceMethod yX10_image ∈ wsL_law := inr_39 _ (List.mem_of_getElem? (i := 5) rfl)
set_option maxRecDepth 20000 in
theorem ml_918 : Cond.selects RX10 yX10_image yX10_image ∈ wsL_law := inr_39 _ (List.mem_of_getElem? (i := 6) rfl)
set_option maxRecDepth 20000 in
theorem gL_law_X10_image : GoodIn wsL_law (wsV RL 146 RX10 yX10_image wsX10_image) := goodIn_sub (List.forall_mem_append.mpr ⟨List.forall_mem_cons.mpr ⟨ml_916, List.forall_mem_cons.mpr ⟨ml_917, List.forall_mem_cons.mpr ⟨ml_918, List.forall_mem_cons.mpr ⟨ml_5, (fun _ h => absurd h List.not_mem_nil)⟩⟩⟩⟩, lp_wsX10_image⟩) (by decide +kernel)
set_option maxRecDepth 20000 in
theorem ml_924 : Cond.code yX9_restore cX9_restore 1 (some .int) ∈ wsL_law := inr_39 _ (List.mem_of_getElem? (i := 12) rfl)
set_option maxRecDepth 20000 in
theorem lp_wsX9_restore_r1 : ∀ w ∈ wsX9_restore_r1, w ∈ wsL_law := (List.forall_mem_cons.mpr ⟨ml_900, (List.forall_mem_cons.mpr ⟨ml_16, (List.forall_mem_cons.mpr ⟨ml_17, (List.forall_mem_cons.mpr ⟨ml_131, (List.forall_mem_cons.mpr ⟨ml_132, (List.forall_mem_cons.mpr ⟨ml_133, (List.forall_mem_cons.mpr ⟨ml_2, (List.forall_mem_cons.mpr ⟨ml_134, (List.forall_mem_cons.mpr ⟨ml_37, (List.forall_mem_cons.mpr ⟨ml_135, (List.forall_mem_cons.mpr ⟨ml_901, (List.forall_mem_cons.mpr ⟨ml_902, (List.forall_mem_cons.mpr ⟨ml_903, (List.forall_mem_cons.mpr ⟨ml_15, (List.forall_mem_cons.mpr ⟨ml_904, (List.forall_mem_cons.mpr ⟨ml_147, (List.forall_mem_cons.mpr ⟨ml_45, (List.forall_mem_cons.mpr ⟨ml_148, (List.forall_mem_cons.mpr ⟨ml_149, (List.forall_mem_cons.mpr ⟨ml_339, (List.forall_mem_cons.mpr ⟨ml_46, (List.forall_mem_cons.mpr ⟨ml_905, (List.forall_mem_cons.mpr ⟨ml_865, (List.forall_mem_cons.mpr ⟨ml_866, (fun _ h => absurd h List.not_mem_nil)⟩)⟩)⟩)⟩)⟩)⟩)⟩)⟩)⟩)⟩)⟩)⟩)⟩)⟩)⟩)⟩)⟩)⟩)⟩)⟩)⟩)⟩)⟩)⟩)
set_option maxRecDepth 20000 in
theorem lp_wsX9_restore_r2 : ∀ w ∈ wsX9_restore_r2, w ∈ wsL_law := (List.forall_mem_cons.mpr ⟨ml_867, (List.forall_mem_cons.mpr ⟨ml_47, (List.forall_mem_cons.mpr ⟨ml_51, (List.forall_mem_cons.mpr ⟨ml_52, (List.forall_mem_cons.mpr ⟨ml_56, (List.forall_mem_cons.mpr ⟨ml_906, (List.forall_mem_cons.mpr ⟨ml_907, (List.forall_mem_cons.mpr ⟨ml_908, (List.forall_mem_cons.mpr ⟨ml_58, (List.forall_mem_cons.mpr ⟨ml_909, (List.forall_mem_cons.mpr ⟨ml_162, (List.forall_mem_cons.mpr ⟨ml_163, (List.forall_mem_cons.mpr ⟨ml_172, (List.forall_mem_cons.mpr ⟨ml_173, (List.forall_mem_cons.mpr ⟨ml_156, (List.forall_mem_cons.mpr ⟨ml_174, (List.forall_mem_cons.mpr ⟨ml_154, (List.forall_mem_cons.mpr ⟨ml_910, (List.forall_mem_cons.mpr ⟨ml_169, (List.forall_mem_cons.mpr ⟨ml_170, (List.forall_mem_cons.mpr ⟨ml_171, (List.forall_mem_cons.mpr ⟨ml_911, (List.forall_mem_cons.mpr ⟨ml_431, (List.forall_mem_cons.mpr ⟨ml_432, (fun _ h => absurd h List.not_mem_nil)⟩)⟩)⟩)⟩)⟩)⟩)⟩)⟩)⟩)⟩)⟩)⟩)⟩)⟩)⟩)⟩)⟩)⟩)⟩)⟩)⟩)⟩)⟩)⟩)
set_option maxRecDepth 20000 in
theorem lp_wsX9_restore_r3 : ∀ w ∈ wsX9_restore_r3, w ∈ wsL_law := (List.forall_mem_cons.mpr ⟨ml_50, (List.forall_mem_cons.mpr ⟨ml_433, (List.forall_mem_cons.mpr ⟨ml_251, (List.forall_mem_cons.mpr ⟨ml_67, (List.forall_mem_cons.mpr ⟨ml_434, (List.forall_mem_cons.mpr ⟨ml_248, (List.forall_mem_cons.mpr ⟨ml_249, (List.forall_mem_cons.mpr ⟨ml_250, (List.forall_mem_cons.mpr ⟨ml_435, (List.forall_mem_cons.mpr ⟨ml_253, (List.forall_mem_cons.mpr ⟨ml_254, (List.forall_mem_cons.mpr ⟨ml_255, (List.forall_mem_cons.mpr ⟨ml_912, (List.forall_mem_cons.mpr ⟨ml_913, (List.forall_mem_cons.mpr ⟨ml_914, (List.forall_mem_cons.mpr ⟨ml_55, (List.forall_mem_cons.mpr ⟨ml_915, (List.forall_mem_cons.mpr ⟨ml_72, (List.forall_mem_cons.mpr ⟨ml_429, (List.forall_mem_cons.mpr ⟨ml_430, (fun _ h => absurd h List.not_mem_nil)⟩)⟩)⟩)⟩)⟩)⟩)⟩)⟩)⟩)⟩)⟩)⟩)⟩)⟩)⟩)⟩)⟩)⟩)⟩)⟩)
set_option maxRecDepth 20000 in
theorem lp_wsX9_restore : ∀ w ∈ wsX9_restore, w ∈ wsL_law := (List.forall_mem_cons.mpr ⟨ml_924, (List.forall_mem_append.mpr ⟨(List.forall_mem_append.mpr ⟨(List.forall_mem_append.mpr ⟨(List.forall_mem_append.mpr ⟨(List.forall_mem_append.mpr ⟨(List.forall_mem_append.mpr ⟨lp_wsX9_restore_r1, (List.forall_mem_append.mpr ⟨lp_wsX9_restore_r2, lp_wsX9_restore_r3⟩)⟩), inlX9⟩), inlX0⟩), inlX2⟩), inlX6⟩), inlX1⟩)⟩)
set_option maxRecDepth 20000 in
theorem ml_921 : Cond.methodLink RL 147 yX9_restore ∈ wsL_law := inr_39 _ (List.mem_of_getElem? (i := 9) rfl)
set_option maxRecDepth 20000 in
theorem ml_922 : Cond.instanceMethod yX9_restore ∈ wsL_law := inr_39 _ (List.mem_of_getElem? (i := 10) rfl)
set_option maxRecDepth 20000 in
theorem ml_923 : Cond.selects RX9 yX9_restore yX9_restore ∈ wsL_law := inr_39 _ (List.mem_of_getElem? (i := 11) rfl)
set_option maxRecDepth 20000 in
theorem gL_law_X9_restore : GoodIn wsL_law (wsV RL 147 RX9 yX9_restore wsX9_restore) := goodIn_sub (List.forall_mem_append.mpr ⟨List.forall_mem_cons.mpr ⟨ml_921, List.forall_mem_cons.mpr ⟨ml_922, List.forall_mem_cons.mpr ⟨ml_923, List.forall_mem_cons.mpr ⟨ml_2, (fun _ h => absurd h List.not_mem_nil)⟩⟩⟩⟩, lp_wsX9_restore⟩) (by decide +kernel)
set_option maxRecDepth 20000 in
theorem ml_928 : Cond.code yX10_restore cX10_restore 1 (some .int) ∈ wsL_law := inr_39 _ (List.mem_of_getElem? (i := 16) rfl)
set_option maxRecDepth 20000 in
theorem lp_wsX10_restore : ∀ w ∈ wsX10_restore, w ∈ wsL_law := (List.forall_mem_cons.mpr ⟨ml_928, (List.forall_mem_append.mpr ⟨(List.forall_mem_cons.mpr ⟨ml_920, (List.forall_mem_cons.mpr ⟨ml_586, (List.forall_mem_cons.mpr ⟨ml_109, (List.forall_mem_cons.mpr ⟨ml_108, (List.forall_mem_cons.mpr ⟨ml_188, (List.forall_mem_cons.mpr ⟨ml_189, (List.forall_mem_cons.mpr ⟨ml_190, (List.forall_mem_cons.mpr ⟨ml_5, (List.forall_mem_cons.mpr ⟨ml_191, (List.forall_mem_cons.mpr ⟨ml_111, (List.forall_mem_cons.mpr ⟨ml_192, (List.forall_mem_cons.mpr ⟨ml_673, (List.forall_mem_cons.mpr ⟨ml_674, (List.forall_mem_cons.mpr ⟨ml_675, (fun _ h => absurd h List.not_mem_nil)⟩)⟩)⟩)⟩)⟩)⟩)⟩)⟩)⟩)⟩)⟩)⟩)⟩)⟩), inlX10⟩)⟩)
set_option maxRecDepth 20000 in
theorem ml_925 : Cond.methodLink RL 150 yX10_restore ∈ wsL_law := inr_39 _ (List.mem_of_getElem? (i := 13) rfl)
set_option maxRecDepth 20000 in
theorem ml_926 : Cond.instanceMethod yX10_restore ∈ wsL_law := inr_39 _ (List.mem_of_getElem? (i := 14) rfl)
set_option maxRecDepth 20000 in
theorem ml_927 : Cond.selects RX10 yX10_restore yX10_restore ∈ wsL_law := inr_39 _ (List.mem_of_getElem? (i := 15) rfl)
set_option maxRecDepth 20000 in
theorem gL_law_X10_restore : GoodIn wsL_law (wsV RL 150 RX10 yX10_restore wsX10_restore) := goodIn_sub (List.forall_mem_append.mpr ⟨List.forall_mem_cons.mpr ⟨ml_925, List.forall_mem_cons.mpr ⟨ml_926, List.forall_mem_cons.mpr ⟨ml_927, List.forall_mem_cons.mpr ⟨ml_5, (fun _ h => absurd h List.not_mem_nil)⟩⟩⟩⟩, lp_wsX10_restore⟩) (by decide +kernel)
set_option maxRecDepth 20000 in
theorem ml_932 : Cond.code yX9_tell cX9_tell 2 (some .int) ∈ wsL_law := inr_39 _ (List.mem_of_getElem? (i := 20) rfl)
set_option maxRecDepth 20000 in
theorem lp_wsX9_tell : ∀ w ∈ wsX9_tell, w ∈ wsL_law := (List.forall_mem_cons.mpr ⟨ml_932, (List.forall_mem_append.mpr ⟨(List.forall_mem_append.mpr ⟨(List.forall_mem_append.mpr ⟨(List.forall_mem_cons.mpr ⟨ml_16, (List.forall_mem_cons.mpr ⟨ml_371, (List.forall_mem_cons.mpr ⟨ml_372, (List.forall_mem_cons.mpr ⟨ml_373, (List.forall_mem_cons.mpr ⟨ml_50, (List.forall_mem_cons.mpr ⟨ml_374, (List.forall_mem_cons.mpr ⟨ml_67, (List.forall_mem_cons.mpr ⟨ml_251, (List.forall_mem_cons.mpr ⟨ml_131, (List.forall_mem_cons.mpr ⟨ml_132, (List.forall_mem_cons.mpr ⟨ml_133, (List.forall_mem_cons.mpr ⟨ml_2, (List.forall_mem_cons.mpr ⟨ml_134, (List.forall_mem_cons.mpr ⟨ml_37, (List.forall_mem_cons.mpr ⟨ml_135, (List.forall_mem_cons.mpr ⟨ml_375, (List.forall_mem_cons.mpr ⟨ml_253, (List.forall_mem_cons.mpr ⟨ml_254, (List.forall_mem_cons.mpr ⟨ml_255, (fun _ h => absurd h List.not_mem_nil)⟩)⟩)⟩)⟩)⟩)⟩)⟩)⟩)⟩)⟩)⟩)⟩)⟩)⟩)⟩)⟩)⟩)⟩)⟩), inlX9⟩), inlX0⟩), inlX6⟩)⟩)
set_option maxRecDepth 20000 in
theorem ml_929 : Cond.methodLink RL 151 yX9_tell ∈ wsL_law := inr_39 _ (List.mem_of_getElem? (i := 17) rfl)
set_option maxRecDepth 20000 in
theorem ml_930 : Cond.instanceMethod yX9_tell ∈ wsL_law := inr_39 _ (List.mem_of_getElem? (i := 18) rfl)
set_option maxRecDepth 20000 in
theorem ml_931 : Cond.selects RX9 yX9_tell yX9_tell ∈ wsL_law := inr_39 _ (List.mem_of_getElem? (i := 19) rfl)
set_option maxRecDepth 20000 in
theorem gL_law_X9_tell : GoodIn wsL_law (wsV RL 151 RX9 yX9_tell wsX9_tell) := goodIn_sub (List.forall_mem_append.mpr ⟨List.forall_mem_cons.mpr ⟨ml_929, List.forall_mem_cons.mpr ⟨ml_930, List.forall_mem_cons.mpr ⟨ml_931, List.forall_mem_cons.mpr ⟨ml_2, (fun _ h => absurd h List.not_mem_nil)⟩⟩⟩⟩, lp_wsX9_tell⟩) (by decide +kernel)
set_option maxRecDepth 20000 in
theorem ml_936 : Cond.code yX10_tell cX10_tell 2 (some .int) ∈ wsL_law := inr_40 _ (List.mem_of_getElem? (i := 0) rfl)
set_option maxRecDepth 20000 in
theorem lp_wsX10_tell : ∀ w ∈ wsX10_tell, w ∈ wsL_law := (List.forall_mem_cons.mpr ⟨ml_936, (List.forall_mem_append.mpr ⟨(List.forall_mem_cons.mpr ⟨ml_108, (List.forall_mem_cons.mpr ⟨ml_180, (List.forall_mem_cons.mpr ⟨ml_188, (List.forall_mem_cons.mpr ⟨ml_189, (List.forall_mem_cons.mpr ⟨ml_190, (List.forall_mem_cons.mpr ⟨ml_5, (List.forall_mem_cons.mpr ⟨ml_191, (List.forall_mem_cons.mpr ⟨ml_111, (List.forall_mem_cons.mpr ⟨ml_192, (fun _ h => absurd h List.not_mem_nil)⟩)⟩)⟩)⟩)⟩)⟩)⟩)⟩)⟩), inlX10⟩)⟩)
set_option maxRecDepth 20000 in
theorem ml_933 : Cond.methodLink RL 154 yX10_tell ∈ wsL_law := inr_39 _ (List.mem_of_getElem? (i := 21) rfl)
set_option maxRecDepth 20000 in
theorem ml_934 : Cond.instanceMethod yX10_tell ∈ wsL_law := inr_39 _ (List.mem_of_getElem? (i := 22) rfl)
set_option maxRecDepth 20000 in
theorem ml_935 : Cond.selects RX10 yX10_tell yX10_tell ∈ wsL_law := inr_39 _ (List.mem_of_getElem? (i := 23) rfl)
set_option maxRecDepth 20000 in
theorem gL_law_X10_tell : GoodIn wsL_law (wsV RL 154 RX10 yX10_tell wsX10_tell) := goodIn_sub (List.forall_mem_append.mpr ⟨List.forall_mem_cons.mpr ⟨ml_933, List.forall_mem_cons.mpr ⟨ml_934, List.forall_mem_cons.mpr ⟨ml_935, List.forall_mem_cons.mpr ⟨ml_5, (fun _ h => absurd h List.not_mem_nil)⟩⟩⟩⟩, lp_wsX10_tell⟩) (by decide +kernel)
set_option maxRecDepth 20000 in
theorem ml_940 : Cond.code yX9_check cX9_check 2 (some .int) ∈ wsL_law := inr_40 _ (List.mem_of_getElem? (i := 4) rfl)
set_option maxRecDepth 20000 in
theorem ml_944 : Cond.code yX9_firstWrongInk cX9_firstWrongInk 3 (some .int) ∈ wsL_law := inr_40 _ (List.mem_of_getElem? (i := 8) rfl)
set_option maxRecDepth 20000 in
theorem ml_943 : Cond.selects RX9 yX9_firstWrongInk yX9_firstWrongInk ∈ wsL_law := inr_40 _ (List.mem_of_getElem? (i := 7) rfl)
set_option maxRecDepth 20000 in
theorem ml_942 : Cond.instanceMethod yX9_firstWrongInk ∈ wsL_law := inr_40 _ (List.mem_of_getElem? (i := 6) rfl)
set_option maxRecDepth 20000 in
theorem ml_941 : Cond.methodLink RX9 293 yX9_firstWrongInk ∈ wsL_law := inr_40 _ (List.mem_of_getElem? (i := 5) rfl)
set_option maxRecDepth 20000 in
theorem lp_wsX9_check : ∀ w ∈ wsX9_check, w ∈ wsL_law := (List.forall_mem_cons.mpr ⟨ml_940, (List.forall_mem_append.mpr ⟨(List.forall_mem_append.mpr ⟨(List.forall_mem_append.mpr ⟨(List.forall_mem_cons.mpr ⟨ml_16, (List.forall_mem_cons.mpr ⟨ml_941, (List.forall_mem_cons.mpr ⟨ml_942, (List.forall_mem_cons.mpr ⟨ml_943, (List.forall_mem_cons.mpr ⟨ml_2, (List.forall_mem_cons.mpr ⟨ml_944, (List.forall_mem_cons.mpr ⟨ml_424, (List.forall_mem_cons.mpr ⟨ml_248, (List.forall_mem_cons.mpr ⟨ml_249, (List.forall_mem_cons.mpr ⟨ml_50, (List.forall_mem_cons.mpr ⟨ml_250, (List.forall_mem_cons.mpr ⟨ml_251, (fun _ h => absurd h List.not_mem_nil)⟩)⟩)⟩)⟩)⟩)⟩)⟩)⟩)⟩)⟩)⟩)⟩), inlX9⟩), inlX0⟩), inlX6⟩)⟩)
set_option maxRecDepth 20000 in
theorem ml_937 : Cond.methodLink RL 155 yX9_check ∈ wsL_law := inr_40 _ (List.mem_of_getElem? (i := 1) rfl)
set_option maxRecDepth 20000 in
theorem ml_938 : Cond.instanceMethod yX9_check ∈ wsL_law := inr_40 _ (List.mem_of_getElem? (i := 2) rfl)
set_option maxRecDepth 20000 in
theorem ml_939 : Cond.selects RX9 yX9_check yX9_check ∈ wsL_law := inr_40 _ (List.mem_of_getElem? (i := 3) rfl)
set_option maxRecDepth 20000 in
theorem gL_law_X9_check : GoodIn wsL_law (wsV RL 155 RX9 yX9_check wsX9_check) := goodIn_sub (List.forall_mem_append.mpr ⟨List.forall_mem_cons.mpr ⟨ml_937, List.forall_mem_cons.mpr ⟨ml_938, List.forall_mem_cons.mpr ⟨ml_939, List.forall_mem_cons.mpr ⟨ml_2, (fun _ h => absurd h List.not_mem_nil)⟩⟩⟩⟩, lp_wsX9_check⟩) (by decide +kernel)
set_option maxRecDepth 20000 in
theorem ml_948 : Cond.code yX10_check cX10_check 3 (some .int) ∈ wsL_law := inr_40 _ (List.mem_of_getElem? (i := 12) rfl)
set_option maxRecDepth 20000 in
theorem lp_wsX10_check : ∀ w ∈ wsX10_check, w ∈ wsL_law := (List.forall_mem_cons.mpr ⟨ml_948, (List.forall_mem_append.mpr ⟨(List.forall_mem_cons.mpr ⟨ml_108, (fun _ h => absurd h List.not_mem_nil)⟩), inlX10⟩)⟩)
set_option maxRecDepth 20000 in
theorem ml_945 : Cond.methodLink RL 158 yX10_check ∈ wsL_law := inr_40 _ (List.mem_of_getElem? (i := 9) rfl)
set_option maxRecDepth 20000 in
theorem ml_946 : Cond.instanceMethod yX10_check ∈ wsL_law := inr_40 _ (List.mem_of_getElem? (i := 10) rfl)
set_option maxRecDepth 20000 in
theorem ml_947 : Cond.selects RX10 yX10_check yX10_check ∈ wsL_law := inr_40 _ (List.mem_of_getElem? (i := 11) rfl)
set_option maxRecDepth 20000 in
theorem gL_law_X10_check : GoodIn wsL_law (wsV RL 158 RX10 yX10_check wsX10_check) := goodIn_sub (List.forall_mem_append.mpr ⟨List.forall_mem_cons.mpr ⟨ml_945, List.forall_mem_cons.mpr ⟨ml_946, List.forall_mem_cons.mpr ⟨ml_947, List.forall_mem_cons.mpr ⟨ml_5, (fun _ h => absurd h List.not_mem_nil)⟩⟩⟩⟩, lp_wsX10_check⟩) (by decide +kernel)
set_option maxRecDepth 20000 in
theorem ml_952 : Cond.code yX9_count cX9_count 2 (some .int) ∈ wsL_law := inr_40 _ (List.mem_of_getElem? (i := 16) rfl)
set_option maxRecDepth 20000 in
theorem lp_wsX9_count : ∀ w ∈ wsX9_count, w ∈ wsL_law := (List.forall_mem_cons.mpr ⟨ml_952, (List.forall_mem_append.mpr ⟨(List.forall_mem_append.mpr ⟨(List.forall_mem_append.mpr ⟨(List.forall_mem_append.mpr ⟨(List.forall_mem_cons.mpr ⟨ml_16, (List.forall_mem_cons.mpr ⟨ml_33, (List.forall_mem_cons.mpr ⟨ml_131, (List.forall_mem_cons.mpr ⟨ml_132, (List.forall_mem_cons.mpr ⟨ml_133, (List.forall_mem_cons.mpr ⟨ml_2, (List.forall_mem_cons.mpr ⟨ml_134, (List.forall_mem_cons.mpr ⟨ml_37, (List.forall_mem_cons.mpr ⟨ml_135, (fun _ h => absurd h List.not_mem_nil)⟩)⟩)⟩)⟩)⟩)⟩)⟩)⟩)⟩), inlX9⟩), inlX0⟩), inlX6⟩), inlX8⟩)⟩)
set_option maxRecDepth 20000 in
theorem ml_949 : Cond.methodLink RL 159 yX9_count ∈ wsL_law := inr_40 _ (List.mem_of_getElem? (i := 13) rfl)
set_option maxRecDepth 20000 in
theorem ml_950 : Cond.instanceMethod yX9_count ∈ wsL_law := inr_40 _ (List.mem_of_getElem? (i := 14) rfl)
set_option maxRecDepth 20000 in
theorem ml_951 : Cond.selects RX9 yX9_count yX9_count ∈ wsL_law := inr_40 _ (List.mem_of_getElem? (i := 15) rfl)
set_option maxRecDepth 20000 in
theorem gL_law_X9_count : GoodIn wsL_law (wsV RL 159 RX9 yX9_count wsX9_count) := goodIn_sub (List.forall_mem_append.mpr ⟨List.forall_mem_cons.mpr ⟨ml_949, List.forall_mem_cons.mpr ⟨ml_950, List.forall_mem_cons.mpr ⟨ml_951, List.forall_mem_cons.mpr ⟨ml_2, (fun _ h => absurd h List.not_mem_nil)⟩⟩⟩⟩, lp_wsX9_count⟩) (by decide +kernel)
set_option maxRecDepth 20000 in
theorem ml_956 : Cond.code yX10_count cX10_count 2 (some .int) ∈ wsL_law := inr_40 _ (List.mem_of_getElem? (i := 20) rfl)
set_option maxRecDepth 20000 in
theorem lp_wsX10_count : ∀ w ∈ wsX10_count, w ∈ wsL_law := (List.forall_mem_cons.mpr ⟨ml_956, (List.forall_mem_append.mpr ⟨(List.forall_mem_cons.mpr ⟨ml_108, (List.forall_mem_cons.mpr ⟨ml_779, (List.forall_mem_cons.mpr ⟨ml_179, (List.forall_mem_cons.mpr ⟨ml_188, (List.forall_mem_cons.mpr ⟨ml_189, (List.forall_mem_cons.mpr ⟨ml_190, (List.forall_mem_cons.mpr ⟨ml_5, (List.forall_mem_cons.mpr ⟨ml_191, (List.forall_mem_cons.mpr ⟨ml_111, (List.forall_mem_cons.mpr ⟨ml_192, (fun _ h => absurd h List.not_mem_nil)⟩)⟩)⟩)⟩)⟩)⟩)⟩)⟩)⟩)⟩), inlX10⟩)⟩)
set_option maxRecDepth 20000 in
theorem ml_953 : Cond.methodLink RL 162 yX10_count ∈ wsL_law := inr_40 _ (List.mem_of_getElem? (i := 17) rfl)
set_option maxRecDepth 20000 in
theorem ml_954 : Cond.instanceMethod yX10_count ∈ wsL_law := inr_40 _ (List.mem_of_getElem? (i := 18) rfl)
set_option maxRecDepth 20000 in
theorem ml_955 : Cond.selects RX10 yX10_count yX10_count ∈ wsL_law := inr_40 _ (List.mem_of_getElem? (i := 19) rfl)
set_option maxRecDepth 20000 in
theorem gL_law_X10_count : GoodIn wsL_law (wsV RL 162 RX10 yX10_count wsX10_count) := goodIn_sub (List.forall_mem_append.mpr ⟨List.forall_mem_cons.mpr ⟨ml_953, List.forall_mem_cons.mpr ⟨ml_954, List.forall_mem_cons.mpr ⟨ml_955, List.forall_mem_cons.mpr ⟨ml_5, (fun _ h => absurd h List.not_mem_nil)⟩⟩⟩⟩, lp_wsX10_count⟩) (by decide +kernel)
set_option maxRecDepth 20000 in
theorem ml_960 : Cond.code yX9_told cX9_told 2 (some .int) ∈ wsL_law := inr_41 _ (List.mem_of_getElem? (i := 0) rfl)
set_option maxRecDepth 20000 in
theorem lp_wsX9_told : ∀ w ∈ wsX9_told, w ∈ wsL_law := (List.forall_mem_cons.mpr ⟨ml_960, (List.forall_mem_append.mpr ⟨(List.forall_mem_cons.mpr ⟨ml_37, (List.forall_mem_cons.mpr ⟨ml_128, (List.forall_mem_cons.mpr ⟨ml_129, (List.forall_mem_cons.mpr ⟨ml_2, (List.forall_mem_cons.mpr ⟨ml_130, (List.forall_mem_cons.mpr ⟨ml_131, (List.forall_mem_cons.mpr ⟨ml_132, (List.forall_mem_cons.mpr ⟨ml_133, (List.forall_mem_cons.mpr ⟨ml_134, (List.forall_mem_cons.mpr ⟨ml_135, (fun _ h => absurd h List.not_mem_nil)⟩)⟩)⟩)⟩)⟩)⟩)⟩)⟩)⟩)⟩), inlX9⟩)⟩)
set_option maxRecDepth 20000 in
theorem ml_957 : Cond.methodLink RL 163 yX9_told ∈ wsL_law := inr_40 _ (List.mem_of_getElem? (i := 21) rfl)
set_option maxRecDepth 20000 in
theorem ml_958 : Cond.instanceMethod yX9_told ∈ wsL_law := inr_40 _ (List.mem_of_getElem? (i := 22) rfl)
set_option maxRecDepth 20000 in
theorem ml_959 : Cond.selects RX9 yX9_told yX9_told ∈ wsL_law := inr_40 _ (List.mem_of_getElem? (i := 23) rfl)
set_option maxRecDepth 20000 in
theorem gL_law_X9_told : GoodIn wsL_law (wsV RL 163 RX9 yX9_told wsX9_told) := goodIn_sub (List.forall_mem_append.mpr ⟨List.forall_mem_cons.mpr ⟨ml_957, List.forall_mem_cons.mpr ⟨ml_958, List.forall_mem_cons.mpr ⟨ml_959, List.forall_mem_cons.mpr ⟨ml_2, (fun _ h => absurd h List.not_mem_nil)⟩⟩⟩⟩, lp_wsX9_told⟩) (by decide +kernel)
set_option maxRecDepth 20000 in
theorem ml_964 : Cond.code yX10_told cX10_told 2 (some .int) ∈ wsL_law := inr_41 _ (List.mem_of_getElem? (i := 4) rfl)
set_option maxRecDepth 20000 in
theorem lp_wsX10_told : ∀ w ∈ wsX10_told, w ∈ wsL_law := (List.forall_mem_cons.mpr ⟨ml_964, (List.forall_mem_append.mpr ⟨(List.forall_mem_cons.mpr ⟨ml_111, (List.forall_mem_cons.mpr ⟨ml_179, (List.forall_mem_cons.mpr ⟨ml_185, (List.forall_mem_cons.mpr ⟨ml_186, (List.forall_mem_cons.mpr ⟨ml_5, (List.forall_mem_cons.mpr ⟨ml_187, (List.forall_mem_cons.mpr ⟨ml_188, (List.forall_mem_cons.mpr ⟨ml_189, (List.forall_mem_cons.mpr ⟨ml_190, (List.forall_mem_cons.mpr ⟨ml_191, (List.forall_mem_cons.mpr ⟨ml_192, (fun _ h => absurd h List.not_mem_nil)⟩)⟩)⟩)⟩)⟩)⟩)⟩)⟩)⟩)⟩)⟩), inlX10⟩)⟩)
set_option maxRecDepth 20000 in
theorem ml_961 : Cond.methodLink RL 166 yX10_told ∈ wsL_law := inr_41 _ (List.mem_of_getElem? (i := 1) rfl)
set_option maxRecDepth 20000 in
theorem ml_962 : Cond.instanceMethod yX10_told ∈ wsL_law := inr_41 _ (List.mem_of_getElem? (i := 2) rfl)
set_option maxRecDepth 20000 in
theorem ml_963 : Cond.selects RX10 yX10_told yX10_told ∈ wsL_law := inr_41 _ (List.mem_of_getElem? (i := 3) rfl)
set_option maxRecDepth 20000 in
theorem gL_law_X10_told : GoodIn wsL_law (wsV RL 166 RX10 yX10_told wsX10_told) := goodIn_sub (List.forall_mem_append.mpr ⟨List.forall_mem_cons.mpr ⟨ml_961, List.forall_mem_cons.mpr ⟨ml_962, List.forall_mem_cons.mpr ⟨ml_963, List.forall_mem_cons.mpr ⟨ml_5, (fun _ h => absurd h List.not_mem_nil)⟩⟩⟩⟩, lp_wsX10_told⟩) (by decide +kernel)
