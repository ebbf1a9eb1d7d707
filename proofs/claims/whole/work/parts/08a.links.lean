theorem zu0 : ∀ w ∈ u_ws "TileStudio" zTb0 5, w ∈ zG := by
  intro w hw
  simp only [u_ws, List.range, List.range.loop, List.map_cons, List.map_nil, List.mem_cons, List.not_mem_nil, or_false] at hw
  rcases hw with rfl | rfl | rfl | rfl | rfl
  · exact zG_T 50 (by decide +kernel) (by decide +kernel)
  · exact zG_T 52 (by decide +kernel) (by decide +kernel)
  · exact zG_T 54 (by decide +kernel) (by decide +kernel)
  · exact zG_T 56 (by decide +kernel) (by decide +kernel)
  · exact zG_T 58 (by decide +kernel) (by decide +kernel)
theorem zty0 : ∀ k, k < 5 → parseFieldDescriptor (zTb0 k).2.2.1 = some (zTy0 k) := by decide +kernel
theorem znm0 : ∀ a, a < 5 → ∀ b, b < 5 → a ≠ b → (zTb0 a).2.1 ≠ (zTb0 b).2.1 := by decide +kernel
theorem zu1 : ∀ w ∈ u_ws "TileStudioModel" zTb1 21, w ∈ zG := by
  intro w hw
  simp only [u_ws, List.range, List.range.loop, List.map_cons, List.map_nil, List.mem_cons, List.not_mem_nil, or_false] at hw
  rcases hw with rfl | rfl | rfl | rfl | rfl | rfl | rfl | rfl | rfl | rfl | rfl | rfl | rfl | rfl | rfl | rfl | rfl | rfl | rfl | rfl | rfl
  · exact zG_T 727 (by decide +kernel) (by decide +kernel)
  · exact zG_T 729 (by decide +kernel) (by decide +kernel)
  · exact zG_T 731 (by decide +kernel) (by decide +kernel)
  · exact zG_T 733 (by decide +kernel) (by decide +kernel)
  · exact zG_T 735 (by decide +kernel) (by decide +kernel)
  · exact zG_T 737 (by decide +kernel) (by decide +kernel)
  · exact zG_T 739 (by decide +kernel) (by decide +kernel)
  · exact zG_T 741 (by decide +kernel) (by decide +kernel)
  · exact zG_T 743 (by decide +kernel) (by decide +kernel)
  · exact zG_T 745 (by decide +kernel) (by decide +kernel)
  · exact zG_T 747 (by decide +kernel) (by decide +kernel)
  · exact zG_T 749 (by decide +kernel) (by decide +kernel)
  · exact zG_T 751 (by decide +kernel) (by decide +kernel)
  · exact zG_T 753 (by decide +kernel) (by decide +kernel)
  · exact zG_T 755 (by decide +kernel) (by decide +kernel)
  · exact zG_T 757 (by decide +kernel) (by decide +kernel)
  · exact zG_T 759 (by decide +kernel) (by decide +kernel)
  · exact zG_T 761 (by decide +kernel) (by decide +kernel)
  · exact zG_T 763 (by decide +kernel) (by decide +kernel)
  · exact zG_T 765 (by decide +kernel) (by decide +kernel)
  · exact zG_T 767 (by decide +kernel) (by decide +kernel)
theorem zty1 : ∀ k, k < 21 → parseFieldDescriptor (zTb1 k).2.2.1 = some (zTy1 k) := by decide +kernel
theorem znm1 : ∀ a, a < 21 → ∀ b, b < 21 → a ≠ b → (zTb1 a).2.1 ≠ (zTb1 b).2.1 := by decide +kernel
theorem zu2 : ∀ w ∈ u_ws "TileStudio$Places" zTb2 2, w ∈ zG := by
  intro w hw
  simp only [u_ws, List.range, List.range.loop, List.map_cons, List.map_nil, List.mem_cons, List.not_mem_nil, or_false] at hw
  rcases hw with rfl | rfl
  · exact zG_T 207 (by decide +kernel) (by decide +kernel)
  · exact zG_T 209 (by decide +kernel) (by decide +kernel)
theorem zty2 : ∀ k, k < 2 → parseFieldDescriptor (zTb2 k).2.2.1 = some (zTy2 k) := by decide +kernel
theorem znm2 : ∀ a, a < 2 → ∀ b, b < 2 → a ≠ b → (zTb2 a).2.1 ≠ (zTb2 b).2.1 := by decide +kernel
theorem zu3 : ∀ w ∈ u_ws "TileStudio$Layer" zTb3 6, w ∈ zG := by
  intro w hw
  simp only [u_ws, List.range, List.range.loop, List.map_cons, List.map_nil, List.mem_cons, List.not_mem_nil, or_false] at hw
  rcases hw with rfl | rfl | rfl | rfl | rfl | rfl
  · exact zG_T 247 (by decide +kernel) (by decide +kernel)
  · exact zG_T 249 (by decide +kernel) (by decide +kernel)
  · exact zG_T 251 (by decide +kernel) (by decide +kernel)
  · exact zG_T 253 (by decide +kernel) (by decide +kernel)
  · exact zG_T 255 (by decide +kernel) (by decide +kernel)
  · exact zG_T 257 (by decide +kernel) (by decide +kernel)
theorem zty3 : ∀ k, k < 6 → parseFieldDescriptor (zTb3 k).2.2.1 = some (zTy3 k) := by decide +kernel
theorem znm3 : ∀ a, a < 6 → ∀ b, b < 6 → a ≠ b → (zTb3 a).2.1 ≠ (zTb3 b).2.1 := by decide +kernel
theorem zu4 : ∀ w ∈ u_ws "TileStudio$Picture" zTb4 4, w ∈ zG := by
  intro w hw
  simp only [u_ws, List.range, List.range.loop, List.map_cons, List.map_nil, List.mem_cons, List.not_mem_nil, or_false] at hw
  rcases hw with rfl | rfl | rfl | rfl
  · exact zG_T 278 (by decide +kernel) (by decide +kernel)
  · exact zG_T 280 (by decide +kernel) (by decide +kernel)
  · exact zG_T 282 (by decide +kernel) (by decide +kernel)
  · exact zG_T 284 (by decide +kernel) (by decide +kernel)
theorem zty4 : ∀ k, k < 4 → parseFieldDescriptor (zTb4 k).2.2.1 = some (zTy4 k) := by decide +kernel
theorem znm4 : ∀ a, a < 4 → ∀ b, b < 4 → a ≠ b → (zTb4 a).2.1 ≠ (zTb4 b).2.1 := by decide +kernel
theorem zu5 : ∀ w ∈ u_ws "TileStudio$Painting" zTb5 4, w ∈ zG := by
  intro w hw
  simp only [u_ws, List.range, List.range.loop, List.map_cons, List.map_nil, List.mem_cons, List.not_mem_nil, or_false] at hw
  rcases hw with rfl | rfl | rfl | rfl
  · exact zG_T 436 (by decide +kernel) (by decide +kernel)
  · exact zG_T 438 (by decide +kernel) (by decide +kernel)
  · exact zG_T 440 (by decide +kernel) (by decide +kernel)
  · exact zG_T 442 (by decide +kernel) (by decide +kernel)
theorem zty5 : ∀ k, k < 4 → parseFieldDescriptor (zTb5 k).2.2.1 = some (zTy5 k) := by decide +kernel
theorem znm5 : ∀ a, a < 4 → ∀ b, b < 4 → a ≠ b → (zTb5 a).2.1 ≠ (zTb5 b).2.1 := by decide +kernel
theorem zu6 : ∀ w ∈ u_ws "TileStudio$Copied" zTb6 2, w ∈ zG := by
  intro w hw
  simp only [u_ws, List.range, List.range.loop, List.map_cons, List.map_nil, List.mem_cons, List.not_mem_nil, or_false] at hw
  rcases hw with rfl | rfl
  · exact zG_T 576 (by decide +kernel) (by decide +kernel)
  · exact zG_T 578 (by decide +kernel) (by decide +kernel)
theorem zty6 : ∀ k, k < 2 → parseFieldDescriptor (zTb6 k).2.2.1 = some (zTy6 k) := by decide +kernel
theorem znm6 : ∀ a, a < 2 → ∀ b, b < 2 → a ≠ b → (zTb6 a).2.1 ≠ (zTb6 b).2.1 := by decide +kernel
theorem zu7 : ∀ w ∈ u_ws "TileStudio$History" zTb7 3, w ∈ zG := by
  intro w hw
  simp only [u_ws, List.range, List.range.loop, List.map_cons, List.map_nil, List.mem_cons, List.not_mem_nil, or_false] at hw
  rcases hw with rfl | rfl | rfl
  · exact zG_T 38 (by decide +kernel) (by decide +kernel)
  · exact zG_T 40 (by decide +kernel) (by decide +kernel)
  · exact zG_T 42 (by decide +kernel) (by decide +kernel)
theorem zty7 : ∀ k, k < 3 → parseFieldDescriptor (zTb7 k).2.2.1 = some (zTy7 k) := by decide +kernel
theorem znm7 : ∀ a, a < 3 → ∀ b, b < 3 → a ≠ b → (zTb7 a).2.1 ≠ (zTb7 b).2.1 := by decide +kernel
theorem fl_TS_12 : zFL "TileStudio" 12 0 0 := ⟨_, _, _, rfl, by decide, zu0, zG_T 45 (by decide +kernel) (by decide +kernel)⟩
theorem fl_TS_52 : zFL "TileStudio" 52 4 2 := ⟨_, _, _, rfl, by decide, zu4, zG_T 274 (by decide +kernel) (by decide +kernel)⟩
theorem fl_TS_59 : zFL "TileStudio" 59 4 0 := ⟨_, _, _, rfl, by decide, zu4, zG_T 268 (by decide +kernel) (by decide +kernel)⟩
theorem fl_TS_63 : zFL "TileStudio" 63 4 1 := ⟨_, _, _, rfl, by decide, zu4, zG_T 271 (by decide +kernel) (by decide +kernel)⟩
theorem fl_TS_97 : zFL "TileStudio" 97 4 3 := ⟨_, _, _, rfl, by decide, zu4, zG_T 277 (by decide +kernel) (by decide +kernel)⟩
theorem fl_TS_113 : zFL "TileStudio" 113 0 3 := ⟨_, _, _, rfl, by decide, zu0, zG_T 48 (by decide +kernel) (by decide +kernel)⟩
theorem fl_TS_116 : zFL "TileStudio" 116 0 4 := ⟨_, _, _, rfl, by decide, zu0, zG_T 49 (by decide +kernel) (by decide +kernel)⟩
theorem fl_TS_153 : zFL "TileStudio" 153 5 2 := ⟨_, _, _, rfl, by decide, zu5, zG_T 434 (by decide +kernel) (by decide +kernel)⟩
theorem fl_TS_177 : zFL "TileStudio" 177 0 2 := ⟨_, _, _, rfl, by decide, zu0, zG_T 47 (by decide +kernel) (by decide +kernel)⟩
theorem fl_TS_187 : zFL "TileStudio" 187 6 1 := ⟨_, _, _, rfl, by decide, zu6, zG_T 575 (by decide +kernel) (by decide +kernel)⟩
theorem fl_TS_190 : zFL "TileStudio" 190 6 0 := ⟨_, _, _, rfl, by decide, zu6, zG_T 573 (by decide +kernel) (by decide +kernel)⟩
theorem fl_TS_211 : zFL "TileStudio" 211 0 1 := ⟨_, _, _, rfl, by decide, zu0, zG_T 46 (by decide +kernel) (by decide +kernel)⟩
theorem fl_TS_223 : zFL "TileStudio" 223 3 5 := ⟨_, _, _, rfl, by decide, zu3, zG_T 246 (by decide +kernel) (by decide +kernel)⟩
theorem fl_TS_227 : zFL "TileStudio" 227 3 3 := ⟨_, _, _, rfl, by decide, zu3, zG_T 242 (by decide +kernel) (by decide +kernel)⟩
theorem fl_TS_230 : zFL "TileStudio" 230 3 4 := ⟨_, _, _, rfl, by decide, zu3, zG_T 244 (by decide +kernel) (by decide +kernel)⟩
theorem fl_TS_261 : zFL "TileStudio" 261 2 0 := ⟨_, _, _, rfl, by decide, zu2, zG_T 204 (by decide +kernel) (by decide +kernel)⟩
theorem fl_TS_273 : zFL "TileStudio" 273 2 1 := ⟨_, _, _, rfl, by decide, zu2, zG_T 206 (by decide +kernel) (by decide +kernel)⟩
theorem fl_Copied_7 : zFL "TileStudio$Copied" 7 6 0 := ⟨_, _, _, rfl, by decide, zu6, zG_T 572 (by decide +kernel) (by decide +kernel)⟩
theorem fl_Copied_13 : zFL "TileStudio$Copied" 13 6 1 := ⟨_, _, _, rfl, by decide, zu6, zG_T 574 (by decide +kernel) (by decide +kernel)⟩
theorem fl_History_11 : zFL "TileStudio$History" 11 7 0 := ⟨_, _, _, rfl, by decide, zu7, zG_T 35 (by decide +kernel) (by decide +kernel)⟩
theorem fl_History_17 : zFL "TileStudio$History" 17 7 1 := ⟨_, _, _, rfl, by decide, zu7, zG_T 36 (by decide +kernel) (by decide +kernel)⟩
theorem fl_History_21 : zFL "TileStudio$History" 21 7 2 := ⟨_, _, _, rfl, by decide, zu7, zG_T 37 (by decide +kernel) (by decide +kernel)⟩
theorem fl_Layer_9 : zFL "TileStudio$Layer" 9 3 0 := ⟨_, _, _, rfl, by decide, zu3, zG_T 236 (by decide +kernel) (by decide +kernel)⟩
theorem fl_Layer_15 : zFL "TileStudio$Layer" 15 3 1 := ⟨_, _, _, rfl, by decide, zu3, zG_T 238 (by decide +kernel) (by decide +kernel)⟩
theorem fl_Layer_18 : zFL "TileStudio$Layer" 18 3 2 := ⟨_, _, _, rfl, by decide, zu3, zG_T 239 (by decide +kernel) (by decide +kernel)⟩
theorem fl_Layer_22 : zFL "TileStudio$Layer" 22 3 3 := ⟨_, _, _, rfl, by decide, zu3, zG_T 241 (by decide +kernel) (by decide +kernel)⟩
theorem fl_Layer_25 : zFL "TileStudio$Layer" 25 3 4 := ⟨_, _, _, rfl, by decide, zu3, zG_T 243 (by decide +kernel) (by decide +kernel)⟩
theorem fl_Layer_28 : zFL "TileStudio$Layer" 28 3 5 := ⟨_, _, _, rfl, by decide, zu3, zG_T 245 (by decide +kernel) (by decide +kernel)⟩
theorem fl_Painting_7 : zFL "TileStudio$Painting" 7 5 0 := ⟨_, _, _, rfl, by decide, zu5, zG_T 431 (by decide +kernel) (by decide +kernel)⟩
theorem fl_Painting_13 : zFL "TileStudio$Painting" 13 5 1 := ⟨_, _, _, rfl, by decide, zu5, zG_T 432 (by decide +kernel) (by decide +kernel)⟩
theorem fl_Painting_17 : zFL "TileStudio$Painting" 17 4 2 := ⟨_, _, _, rfl, by decide, zu4, zG_T 273 (by decide +kernel) (by decide +kernel)⟩
theorem fl_Painting_23 : zFL "TileStudio$Painting" 23 5 2 := ⟨_, _, _, rfl, by decide, zu5, zG_T 433 (by decide +kernel) (by decide +kernel)⟩
theorem fl_Painting_27 : zFL "TileStudio$Painting" 27 3 2 := ⟨_, _, _, rfl, by decide, zu3, zG_T 240 (by decide +kernel) (by decide +kernel)⟩
theorem fl_Painting_38 : zFL "TileStudio$Painting" 38 5 3 := ⟨_, _, _, rfl, by decide, zu5, zG_T 435 (by decide +kernel) (by decide +kernel)⟩
theorem fl_Painting_41 : zFL "TileStudio$Painting" 41 4 0 := ⟨_, _, _, rfl, by decide, zu4, zG_T 267 (by decide +kernel) (by decide +kernel)⟩
theorem fl_Painting_44 : zFL "TileStudio$Painting" 44 4 1 := ⟨_, _, _, rfl, by decide, zu4, zG_T 270 (by decide +kernel) (by decide +kernel)⟩
theorem fl_Painting_47 : zFL "TileStudio$Painting" 47 4 3 := ⟨_, _, _, rfl, by decide, zu4, zG_T 276 (by decide +kernel) (by decide +kernel)⟩
theorem fl_Painting_60 : zFL "TileStudio$Painting" 60 3 0 := ⟨_, _, _, rfl, by decide, zu3, zG_T 237 (by decide +kernel) (by decide +kernel)⟩
theorem fl_Picture_7 : zFL "TileStudio$Picture" 7 4 0 := ⟨_, _, _, rfl, by decide, zu4, zG_T 266 (by decide +kernel) (by decide +kernel)⟩
theorem fl_Picture_13 : zFL "TileStudio$Picture" 13 4 1 := ⟨_, _, _, rfl, by decide, zu4, zG_T 269 (by decide +kernel) (by decide +kernel)⟩
theorem fl_Picture_16 : zFL "TileStudio$Picture" 16 4 2 := ⟨_, _, _, rfl, by decide, zu4, zG_T 272 (by decide +kernel) (by decide +kernel)⟩
theorem fl_Picture_20 : zFL "TileStudio$Picture" 20 4 3 := ⟨_, _, _, rfl, by decide, zu4, zG_T 275 (by decide +kernel) (by decide +kernel)⟩
theorem fl_Places_7 : zFL "TileStudio$Places" 7 2 0 := ⟨_, _, _, rfl, by decide, zu2, zG_T 203 (by decide +kernel) (by decide +kernel)⟩
theorem fl_Places_13 : zFL "TileStudio$Places" 13 2 1 := ⟨_, _, _, rfl, by decide, zu2, zG_T 205 (by decide +kernel) (by decide +kernel)⟩
theorem fl_M_7 : zFL "TileStudioModel" 7 1 1 := ⟨_, _, _, rfl, by decide, zu1, zG_T 707 (by decide +kernel) (by decide +kernel)⟩
theorem fl_M_13 : zFL "TileStudioModel" 13 1 2 := ⟨_, _, _, rfl, by decide, zu1, zG_T 708 (by decide +kernel) (by decide +kernel)⟩
theorem fl_M_16 : zFL "TileStudioModel" 16 1 3 := ⟨_, _, _, rfl, by decide, zu1, zG_T 709 (by decide +kernel) (by decide +kernel)⟩
theorem fl_M_19 : zFL "TileStudioModel" 19 1 4 := ⟨_, _, _, rfl, by decide, zu1, zG_T 710 (by decide +kernel) (by decide +kernel)⟩
theorem fl_M_22 : zFL "TileStudioModel" 22 1 5 := ⟨_, _, _, rfl, by decide, zu1, zG_T 711 (by decide +kernel) (by decide +kernel)⟩
theorem fl_M_26 : zFL "TileStudioModel" 26 1 6 := ⟨_, _, _, rfl, by decide, zu1, zG_T 712 (by decide +kernel) (by decide +kernel)⟩
theorem fl_M_29 : zFL "TileStudioModel" 29 1 7 := ⟨_, _, _, rfl, by decide, zu1, zG_T 713 (by decide +kernel) (by decide +kernel)⟩
theorem fl_M_32 : zFL "TileStudioModel" 32 1 8 := ⟨_, _, _, rfl, by decide, zu1, zG_T 714 (by decide +kernel) (by decide +kernel)⟩
theorem fl_M_35 : zFL "TileStudioModel" 35 1 16 := ⟨_, _, _, rfl, by decide, zu1, zG_T 722 (by decide +kernel) (by decide +kernel)⟩
theorem fl_M_38 : zFL "TileStudioModel" 38 1 17 := ⟨_, _, _, rfl, by decide, zu1, zG_T 723 (by decide +kernel) (by decide +kernel)⟩
theorem fl_M_41 : zFL "TileStudioModel" 41 1 18 := ⟨_, _, _, rfl, by decide, zu1, zG_T 724 (by decide +kernel) (by decide +kernel)⟩
theorem fl_M_44 : zFL "TileStudioModel" 44 1 19 := ⟨_, _, _, rfl, by decide, zu1, zG_T 725 (by decide +kernel) (by decide +kernel)⟩
theorem fl_M_47 : zFL "TileStudioModel" 47 1 20 := ⟨_, _, _, rfl, by decide, zu1, zG_T 726 (by decide +kernel) (by decide +kernel)⟩
theorem fl_M_50 : zFL "TileStudioModel" 50 1 0 := ⟨_, _, _, rfl, by decide, zu1, zG_T 706 (by decide +kernel) (by decide +kernel)⟩
theorem fl_M_58 : zFL "TileStudioModel" 58 1 12 := ⟨_, _, _, rfl, by decide, zu1, zG_T 718 (by decide +kernel) (by decide +kernel)⟩
theorem fl_M_64 : zFL "TileStudioModel" 64 1 13 := ⟨_, _, _, rfl, by decide, zu1, zG_T 719 (by decide +kernel) (by decide +kernel)⟩
theorem fl_M_67 : zFL "TileStudioModel" 67 1 9 := ⟨_, _, _, rfl, by decide, zu1, zG_T 715 (by decide +kernel) (by decide +kernel)⟩
theorem fl_M_126 : zFL "TileStudioModel" 126 1 14 := ⟨_, _, _, rfl, by decide, zu1, zG_T 720 (by decide +kernel) (by decide +kernel)⟩
theorem fl_M_129 : zFL "TileStudioModel" 129 1 15 := ⟨_, _, _, rfl, by decide, zu1, zG_T 721 (by decide +kernel) (by decide +kernel)⟩
theorem fl_M_161 : zFL "TileStudioModel" 161 1 11 := ⟨_, _, _, rfl, by decide, zu1, zG_T 717 (by decide +kernel) (by decide +kernel)⟩
theorem fl_M_170 : zFL "TileStudioModel" 170 1 10 := ⟨_, _, _, rfl, by decide, zu1, zG_T 716 (by decide +kernel) (by decide +kernel)⟩
theorem pt_0_0 {v : Value} (hn : narrow (zTy0 0) v = v) (hf : fits (zTy0 0) v = true) : zPut "TileStudio" "<init>" 0 0 v := ⟨_, _, _, zTy0, rfl, zty0, znm0, hn, hf, Or.inr ⟨rfl, rfl, rfl⟩⟩
theorem pt_0_1 {own name : String} {v : Value} (hn : narrow (zTy0 1) v = v) (hf : fits (zTy0 1) v = true) : zPut own name 0 1 v := ⟨_, _, _, zTy0, rfl, zty0, znm0, hn, hf, Or.inl rfl⟩
theorem pt_0_2 {own name : String} {v : Value} (hn : narrow (zTy0 2) v = v) (hf : fits (zTy0 2) v = true) : zPut own name 0 2 v := ⟨_, _, _, zTy0, rfl, zty0, znm0, hn, hf, Or.inl rfl⟩
theorem pt_0_3 {own name : String} {v : Value} (hn : narrow (zTy0 3) v = v) (hf : fits (zTy0 3) v = true) : zPut own name 0 3 v := ⟨_, _, _, zTy0, rfl, zty0, znm0, hn, hf, Or.inl rfl⟩
theorem pt_0_4 {own name : String} {v : Value} (hn : narrow (zTy0 4) v = v) (hf : fits (zTy0 4) v = true) : zPut own name 0 4 v := ⟨_, _, _, zTy0, rfl, zty0, znm0, hn, hf, Or.inl rfl⟩
theorem pt_1_0 {own name : String} {v : Value} (hn : narrow (zTy1 0) v = v) (hf : fits (zTy1 0) v = true) : zPut own name 1 0 v := ⟨_, _, _, zTy1, rfl, zty1, znm1, hn, hf, Or.inl rfl⟩
theorem pt_1_1 {v : Value} (hn : narrow (zTy1 1) v = v) (hf : fits (zTy1 1) v = true) : zPut "TileStudioModel" "<init>" 1 1 v := ⟨_, _, _, zTy1, rfl, zty1, znm1, hn, hf, Or.inr ⟨rfl, rfl, rfl⟩⟩
theorem pt_1_2 {v : Value} (hn : narrow (zTy1 2) v = v) (hf : fits (zTy1 2) v = true) : zPut "TileStudioModel" "<init>" 1 2 v := ⟨_, _, _, zTy1, rfl, zty1, znm1, hn, hf, Or.inr ⟨rfl, rfl, rfl⟩⟩
theorem pt_1_3 {v : Value} (hn : narrow (zTy1 3) v = v) (hf : fits (zTy1 3) v = true) : zPut "TileStudioModel" "<init>" 1 3 v := ⟨_, _, _, zTy1, rfl, zty1, znm1, hn, hf, Or.inr ⟨rfl, rfl, rfl⟩⟩
theorem pt_1_4 {v : Value} (hn : narrow (zTy1 4) v = v) (hf : fits (zTy1 4) v = true) : zPut "TileStudioModel" "<init>" 1 4 v := ⟨_, _, _, zTy1, rfl, zty1, znm1, hn, hf, Or.inr ⟨rfl, rfl, rfl⟩⟩
theorem pt_1_5 {v : Value} (hn : narrow (zTy1 5) v = v) (hf : fits (zTy1 5) v = true) : zPut "TileStudioModel" "<init>" 1 5 v := ⟨_, _, _, zTy1, rfl, zty1, znm1, hn, hf, Or.inr ⟨rfl, rfl, rfl⟩⟩
theorem pt_1_6 {v : Value} (hn : narrow (zTy1 6) v = v) (hf : fits (zTy1 6) v = true) : zPut "TileStudioModel" "<init>" 1 6 v := ⟨_, _, _, zTy1, rfl, zty1, znm1, hn, hf, Or.inr ⟨rfl, rfl, rfl⟩⟩
theorem pt_1_7 {v : Value} (hn : narrow (zTy1 7) v = v) (hf : fits (zTy1 7) v = true) : zPut "TileStudioModel" "<init>" 1 7 v := ⟨_, _, _, zTy1, rfl, zty1, znm1, hn, hf, Or.inr ⟨rfl, rfl, rfl⟩⟩
theorem pt_1_8 {v : Value} (hn : narrow (zTy1 8) v = v) (hf : fits (zTy1 8) v = true) : zPut "TileStudioModel" "<init>" 1 8 v := ⟨_, _, _, zTy1, rfl, zty1, znm1, hn, hf, Or.inr ⟨rfl, rfl, rfl⟩⟩
theorem pt_1_9 {own name : String} {v : Value} (hn : narrow (zTy1 9) v = v) (hf : fits (zTy1 9) v = true) : zPut own name 1 9 v := ⟨_, _, _, zTy1, rfl, zty1, znm1, hn, hf, Or.inl rfl⟩
theorem pt_1_10 {own name : String} {v : Value} (hn : narrow (zTy1 10) v = v) (hf : fits (zTy1 10) v = true) : zPut own name 1 10 v := ⟨_, _, _, zTy1, rfl, zty1, znm1, hn, hf, Or.inl rfl⟩
theorem pt_1_11 {own name : String} {v : Value} (hn : narrow (zTy1 11) v = v) (hf : fits (zTy1 11) v = true) : zPut own name 1 11 v := ⟨_, _, _, zTy1, rfl, zty1, znm1, hn, hf, Or.inl rfl⟩
theorem pt_1_12 {own name : String} {v : Value} (hn : narrow (zTy1 12) v = v) (hf : fits (zTy1 12) v = true) : zPut own name 1 12 v := ⟨_, _, _, zTy1, rfl, zty1, znm1, hn, hf, Or.inl rfl⟩
theorem pt_1_13 {own name : String} {v : Value} (hn : narrow (zTy1 13) v = v) (hf : fits (zTy1 13) v = true) : zPut own name 1 13 v := ⟨_, _, _, zTy1, rfl, zty1, znm1, hn, hf, Or.inl rfl⟩
theorem pt_1_14 {own name : String} {v : Value} (hn : narrow (zTy1 14) v = v) (hf : fits (zTy1 14) v = true) : zPut own name 1 14 v := ⟨_, _, _, zTy1, rfl, zty1, znm1, hn, hf, Or.inl rfl⟩
theorem pt_1_15 {own name : String} {v : Value} (hn : narrow (zTy1 15) v = v) (hf : fits (zTy1 15) v = true) : zPut own name 1 15 v := ⟨_, _, _, zTy1, rfl, zty1, znm1, hn, hf, Or.inl rfl⟩
theorem pt_1_16 {v : Value} (hn : narrow (zTy1 16) v = v) (hf : fits (zTy1 16) v = true) : zPut "TileStudioModel" "<init>" 1 16 v := ⟨_, _, _, zTy1, rfl, zty1, znm1, hn, hf, Or.inr ⟨rfl, rfl, rfl⟩⟩
theorem pt_1_17 {v : Value} (hn : narrow (zTy1 17) v = v) (hf : fits (zTy1 17) v = true) : zPut "TileStudioModel" "<init>" 1 17 v := ⟨_, _, _, zTy1, rfl, zty1, znm1, hn, hf, Or.inr ⟨rfl, rfl, rfl⟩⟩
theorem pt_1_18 {v : Value} (hn : narrow (zTy1 18) v = v) (hf : fits (zTy1 18) v = true) : zPut "TileStudioModel" "<init>" 1 18 v := ⟨_, _, _, zTy1, rfl, zty1, znm1, hn, hf, Or.inr ⟨rfl, rfl, rfl⟩⟩
theorem pt_1_19 {v : Value} (hn : narrow (zTy1 19) v = v) (hf : fits (zTy1 19) v = true) : zPut "TileStudioModel" "<init>" 1 19 v := ⟨_, _, _, zTy1, rfl, zty1, znm1, hn, hf, Or.inr ⟨rfl, rfl, rfl⟩⟩
theorem pt_1_20 {v : Value} (hn : narrow (zTy1 20) v = v) (hf : fits (zTy1 20) v = true) : zPut "TileStudioModel" "<init>" 1 20 v := ⟨_, _, _, zTy1, rfl, zty1, znm1, hn, hf, Or.inr ⟨rfl, rfl, rfl⟩⟩
theorem pt_2_0 {v : Value} (hn : narrow (zTy2 0) v = v) (hf : fits (zTy2 0) v = true) : zPut "TileStudio$Places" "<init>" 2 0 v := ⟨_, _, _, zTy2, rfl, zty2, znm2, hn, hf, Or.inr ⟨rfl, rfl, rfl⟩⟩
theorem pt_2_1 {v : Value} (hn : narrow (zTy2 1) v = v) (hf : fits (zTy2 1) v = true) : zPut "TileStudio$Places" "<init>" 2 1 v := ⟨_, _, _, zTy2, rfl, zty2, znm2, hn, hf, Or.inr ⟨rfl, rfl, rfl⟩⟩
theorem pt_3_0 {v : Value} (hn : narrow (zTy3 0) v = v) (hf : fits (zTy3 0) v = true) : zPut "TileStudio$Layer" "<init>" 3 0 v := ⟨_, _, _, zTy3, rfl, zty3, znm3, hn, hf, Or.inr ⟨rfl, rfl, rfl⟩⟩
theorem pt_3_1 {v : Value} (hn : narrow (zTy3 1) v = v) (hf : fits (zTy3 1) v = true) : zPut "TileStudio$Layer" "<init>" 3 1 v := ⟨_, _, _, zTy3, rfl, zty3, znm3, hn, hf, Or.inr ⟨rfl, rfl, rfl⟩⟩
theorem pt_3_2 {v : Value} (hn : narrow (zTy3 2) v = v) (hf : fits (zTy3 2) v = true) : zPut "TileStudio$Layer" "<init>" 3 2 v := ⟨_, _, _, zTy3, rfl, zty3, znm3, hn, hf, Or.inr ⟨rfl, rfl, rfl⟩⟩
theorem pt_3_3 {v : Value} (hn : narrow (zTy3 3) v = v) (hf : fits (zTy3 3) v = true) : zPut "TileStudio$Layer" "<init>" 3 3 v := ⟨_, _, _, zTy3, rfl, zty3, znm3, hn, hf, Or.inr ⟨rfl, rfl, rfl⟩⟩
theorem pt_3_4 {v : Value} (hn : narrow (zTy3 4) v = v) (hf : fits (zTy3 4) v = true) : zPut "TileStudio$Layer" "<init>" 3 4 v := ⟨_, _, _, zTy3, rfl, zty3, znm3, hn, hf, Or.inr ⟨rfl, rfl, rfl⟩⟩
theorem pt_3_5 {v : Value} (hn : narrow (zTy3 5) v = v) (hf : fits (zTy3 5) v = true) : zPut "TileStudio$Layer" "<init>" 3 5 v := ⟨_, _, _, zTy3, rfl, zty3, znm3, hn, hf, Or.inr ⟨rfl, rfl, rfl⟩⟩
theorem pt_4_0 {v : Value} (hn : narrow (zTy4 0) v = v) (hf : fits (zTy4 0) v = true) : zPut "TileStudio$Picture" "<init>" 4 0 v := ⟨_, _, _, zTy4, rfl, zty4, znm4, hn, hf, Or.inr ⟨rfl, rfl, rfl⟩⟩
theorem pt_4_1 {v : Value} (hn : narrow (zTy4 1) v = v) (hf : fits (zTy4 1) v = true) : zPut "TileStudio$Picture" "<init>" 4 1 v := ⟨_, _, _, zTy4, rfl, zty4, znm4, hn, hf, Or.inr ⟨rfl, rfl, rfl⟩⟩
theorem pt_4_2 {v : Value} (hn : narrow (zTy4 2) v = v) (hf : fits (zTy4 2) v = true) : zPut "TileStudio$Picture" "<init>" 4 2 v := ⟨_, _, _, zTy4, rfl, zty4, znm4, hn, hf, Or.inr ⟨rfl, rfl, rfl⟩⟩
theorem pt_4_3 {v : Value} (hn : narrow (zTy4 3) v = v) (hf : fits (zTy4 3) v = true) : zPut "TileStudio$Picture" "<init>" 4 3 v := ⟨_, _, _, zTy4, rfl, zty4, znm4, hn, hf, Or.inr ⟨rfl, rfl, rfl⟩⟩
theorem pt_5_0 {v : Value} (hn : narrow (zTy5 0) v = v) (hf : fits (zTy5 0) v = true) : zPut "TileStudio$Painting" "<init>" 5 0 v := ⟨_, _, _, zTy5, rfl, zty5, znm5, hn, hf, Or.inr ⟨rfl, rfl, rfl⟩⟩
theorem pt_5_1 {v : Value} (hn : narrow (zTy5 1) v = v) (hf : fits (zTy5 1) v = true) : zPut "TileStudio$Painting" "<init>" 5 1 v := ⟨_, _, _, zTy5, rfl, zty5, znm5, hn, hf, Or.inr ⟨rfl, rfl, rfl⟩⟩
theorem pt_5_2 {v : Value} (hn : narrow (zTy5 2) v = v) (hf : fits (zTy5 2) v = true) : zPut "TileStudio$Painting" "<init>" 5 2 v := ⟨_, _, _, zTy5, rfl, zty5, znm5, hn, hf, Or.inr ⟨rfl, rfl, rfl⟩⟩
theorem pt_5_3 {v : Value} (hn : narrow (zTy5 3) v = v) (hf : fits (zTy5 3) v = true) : zPut "TileStudio$Painting" "<init>" 5 3 v := ⟨_, _, _, zTy5, rfl, zty5, znm5, hn, hf, Or.inr ⟨rfl, rfl, rfl⟩⟩
theorem pt_6_0 {v : Value} (hn : narrow (zTy6 0) v = v) (hf : fits (zTy6 0) v = true) : zPut "TileStudio$Copied" "<init>" 6 0 v := ⟨_, _, _, zTy6, rfl, zty6, znm6, hn, hf, Or.inr ⟨rfl, rfl, rfl⟩⟩
theorem pt_6_1 {v : Value} (hn : narrow (zTy6 1) v = v) (hf : fits (zTy6 1) v = true) : zPut "TileStudio$Copied" "<init>" 6 1 v := ⟨_, _, _, zTy6, rfl, zty6, znm6, hn, hf, Or.inr ⟨rfl, rfl, rfl⟩⟩
theorem pt_7_0 {v : Value} (hn : narrow (zTy7 0) v = v) (hf : fits (zTy7 0) v = true) : zPut "TileStudio$History" "<init>" 7 0 v := ⟨_, _, _, zTy7, rfl, zty7, znm7, hn, hf, Or.inr ⟨rfl, rfl, rfl⟩⟩
theorem pt_7_1 {own name : String} {v : Value} (hn : narrow (zTy7 1) v = v) (hf : fits (zTy7 1) v = true) : zPut own name 7 1 v := ⟨_, _, _, zTy7, rfl, zty7, znm7, hn, hf, Or.inl rfl⟩
theorem pt_7_2 {own name : String} {v : Value} (hn : narrow (zTy7 2) v = v) (hf : fits (zTy7 2) v = true) : zPut own name 7 2 v := ⟨_, _, _, zTy7, rfl, zty7, znm7, hn, hf, Or.inl rfl⟩
theorem nw_TS_9 : zNew "TileStudio" 9 7 3 [.null, zI 0, zI 0] := ⟨_, _, zTy7, rfl, zty7, zu7, zG_T 27 (by decide +kernel) (by decide +kernel), zG_T 28 (by decide +kernel) (by decide +kernel), zG_T 2 (by decide +kernel) (by decide +kernel), by decide +kernel⟩
theorem nw_TS_24 : zNew "TileStudio" 24 2 2 [zI 0, .null] := ⟨_, _, zTy2, rfl, zty2, zu2, zG_T 197 (by decide +kernel) (by decide +kernel), zG_T 198 (by decide +kernel) (by decide +kernel), zG_T 8 (by decide +kernel) (by decide +kernel), by decide +kernel⟩
theorem nw_TS_33 : zNew "TileStudio" 33 3 6 [zI 0, zI 0, .null, zI 0, zI 0, zI 0] := ⟨_, _, zTy3, rfl, zty3, zu3, zG_T 226 (by decide +kernel) (by decide +kernel), zG_T 231 (by decide +kernel) (by decide +kernel), zG_T 9 (by decide +kernel) (by decide +kernel), by decide +kernel⟩
theorem nw_TS_39 : zNew "TileStudio" 39 4 4 [zI 0, zI 0, .null, .null] := ⟨_, _, zTy4, rfl, zty4, zu4, zG_T 260 (by decide +kernel) (by decide +kernel), zG_T 261 (by decide +kernel) (by decide +kernel), zG_T 10 (by decide +kernel) (by decide +kernel), by decide +kernel⟩
theorem nw_TS_124 : zNew "TileStudio" 124 5 4 [.null, zI 0, .null, .null] := ⟨_, _, zTy5, rfl, zty5, zu5, zG_T 418 (by decide +kernel) (by decide +kernel), zG_T 419 (by decide +kernel) (by decide +kernel), zG_T 13 (by decide +kernel) (by decide +kernel), by decide +kernel⟩
theorem nw_TS_172 : zNew "TileStudio" 172 6 2 [.null, .null] := ⟨_, _, zTy6, rfl, zty6, zu6, zG_T 566 (by decide +kernel) (by decide +kernel), zG_T 567 (by decide +kernel) (by decide +kernel), zG_T 16 (by decide +kernel) (by decide +kernel), by decide +kernel⟩
theorem nw_Layer_10 : zNew "TileStudio$Layer" 10 3 6 [zI 0, zI 0, .null, zI 0, zI 0, zI 0] := ⟨_, _, zTy3, rfl, zty3, zu3, zG_T 367 (by decide +kernel) (by decide +kernel), zG_T 231 (by decide +kernel) (by decide +kernel), zG_T 9 (by decide +kernel) (by decide +kernel), by decide +kernel⟩
theorem nw_Picture_8 : zNew "TileStudio$Picture" 8 4 4 [zI 0, zI 0, .null, .null] := ⟨_, _, zTy4, rfl, zty4, zu4, zG_T 325 (by decide +kernel) (by decide +kernel), zG_T 261 (by decide +kernel) (by decide +kernel), zG_T 10 (by decide +kernel) (by decide +kernel), by decide +kernel⟩
theorem nw_L_8 : zNew "TileStudioLaw" 8 0 5 [.null, .null, .null, zI 0, zI 0] := ⟨_, _, zTy0, rfl, zty0, zu0, zG_T 19 (by decide +kernel) (by decide +kernel), zG_T 20 (by decide +kernel) (by decide +kernel), zG_T 1 (by decide +kernel) (by decide +kernel), by decide +kernel⟩
theorem nw_L_90 : zNew "TileStudioLaw" 90 1 21 [zI 0, .null, .null, .null, .null, .null, .null, .null, .null, zI 0, zI 0, zI 0, zI 0, zI 0, zI 0, zI 0, .null, .null, .null, .null, .null] := ⟨_, _, zTy1, rfl, zty1, zu1, zG_T 700 (by decide +kernel) (by decide +kernel), zG_T 701 (by decide +kernel) (by decide +kernel), zG_T 3 (by decide +kernel) (by decide +kernel), by decide +kernel⟩
theorem cl_TS_33 : Cond.classLink "TileStudio" 33 "TileStudio$Layer" ∈ zG := zG_T 226 (by decide +kernel) (by decide +kernel)
theorem cl_History_9 : Cond.classLink "TileStudio$History" 9 "TileStudio$Picture" ∈ zG := zG_T 33 (by decide +kernel) (by decide +kernel)
theorem cl_Picture_27 : Cond.classLink "TileStudio$Picture" 27 "TileStudio$Layer" ∈ zG := zG_T 373 (by decide +kernel) (by decide +kernel)
theorem cs_TS_93 : Cond.constant "TileStudio" 93 (Int32.ofInt 65535) ∈ zG := zG_T 382 (by decide +kernel) (by decide +kernel)
theorem cs_TS_271 : Cond.constantLong "TileStudio" 271 (Int64.ofInt 2) ∈ zG := zG_T 389 (by decide +kernel) (by decide +kernel)
theorem cs_M_93 : Cond.constantLong "TileStudioModel" 93 (Int64.ofInt 2) ∈ zG := zG_T 842 (by decide +kernel) (by decide +kernel)
theorem cs_M_95 : Cond.constant "TileStudioModel" 95 (Int32.ofInt 65535) ∈ zG := zG_T 830 (by decide +kernel) (by decide +kernel)
theorem cs_Int_265 : Cond.constant "java/lang/Integer" 265 (Int32.ofInt 1431655765) ∈ zG := zG_T 114 (by decide +kernel) (by decide +kernel)
theorem cs_Int_266 : Cond.constant "java/lang/Integer" 266 (Int32.ofInt 858993459) ∈ zG := zG_T 115 (by decide +kernel) (by decide +kernel)
theorem cs_Int_267 : Cond.constant "java/lang/Integer" 267 (Int32.ofInt 252645135) ∈ zG := zG_T 116 (by decide +kernel) (by decide +kernel)
theorem ob_TS_3 : Cond.methodLink "TileStudio" 3 Lib.objectInit ∈ zG := zG_T 24 (by decide +kernel) (by decide +kernel)
theorem lk_TS_11 : Cond.methodLink "TileStudio" 11 (zy m_History_init) ∈ zG ∧ Cond.instanceMethod (zy m_History_init) ∈ zG ∧ (zy m_History_init).name = "<init>" ∧ zret m_History_init = none := ⟨zG_T 29 (by decide +kernel) (by decide +kernel), zG_T 30 (by decide +kernel) (by decide +kernel), rfl, rfl⟩
theorem lk_TS_16 : Cond.methodLink "TileStudio" 16 (zy m_TS_isWithin) ∈ zG ∧ Cond.static (zy m_TS_isWithin) ∈ zG := ⟨zG_T 81 (by decide +kernel) (by decide +kernel), zG_T 82 (by decide +kernel) (by decide +kernel)⟩
theorem lk_TS_20 : Cond.methodLink "TileStudio" 20 (zy m_TS_require) ∈ zG ∧ Cond.static (zy m_TS_require) ∈ zG := ⟨zG_T 130 (by decide +kernel) (by decide +kernel), zG_T 131 (by decide +kernel) (by decide +kernel)⟩
theorem lk_TS_26 : Cond.methodLink "TileStudio" 26 (zy m_Places_init) ∈ zG ∧ Cond.instanceMethod (zy m_Places_init) ∈ zG ∧ (zy m_Places_init).name = "<init>" ∧ zret m_Places_init = none := ⟨zG_T 199 (by decide +kernel) (by decide +kernel), zG_T 200 (by decide +kernel) (by decide +kernel), rfl, rfl⟩
theorem lk_TS_29 : Cond.methodLink "TileStudio" 29 (zy m_TS_addRectangle) ∈ zG ∧ Cond.static (zy m_TS_addRectangle) ∈ zG := ⟨zG_T 213 (by decide +kernel) (by decide +kernel), zG_T 214 (by decide +kernel) (by decide +kernel)⟩
theorem lk_TS_35 : Cond.methodLink "TileStudio" 35 (zy m_TS_clearLayer) ∈ zG ∧ Cond.static (zy m_TS_clearLayer) ∈ zG := ⟨zG_T 228 (by decide +kernel) (by decide +kernel), zG_T 229 (by decide +kernel) (by decide +kernel)⟩
theorem lk_TS_41 : Cond.methodLink "TileStudio" 41 (zy m_Picture_init) ∈ zG ∧ Cond.instanceMethod (zy m_Picture_init) ∈ zG ∧ (zy m_Picture_init).name = "<init>" ∧ zret m_Picture_init = none := ⟨zG_T 262 (by decide +kernel) (by decide +kernel), zG_T 263 (by decide +kernel) (by decide +kernel), rfl, rfl⟩
theorem lk_TS_44 : Cond.methodLink "TileStudio" 44 (zy m_History_begin) ∈ zG ∧ Cond.instanceMethod (zy m_History_begin) ∈ zG ∧ Cond.selects (zy m_History_begin).cls (zy m_History_begin) (zy m_History_begin) ∈ zG := ⟨zG_T 287 (by decide +kernel) (by decide +kernel), zG_T 288 (by decide +kernel) (by decide +kernel), zG_T 289 (by decide +kernel) (by decide +kernel)⟩
theorem lk_TS_48 : Cond.methodLink "TileStudio" 48 (zy m_TS_presentPicture) ∈ zG ∧ Cond.instanceMethod (zy m_TS_presentPicture) ∈ zG ∧ Cond.selects (zy m_TS_presentPicture).cls (zy m_TS_presentPicture) (zy m_TS_presentPicture) ∈ zG := ⟨zG_T 299 (by decide +kernel) (by decide +kernel), zG_T 301 (by decide +kernel) (by decide +kernel), zG_S 1 (by decide +kernel) (by decide +kernel)⟩
-- ('TileStudio', 58) invokespecial: ('java/lang/IllegalStateException', '<init>', '()V')
theorem lk_TS_66 : Cond.methodLink "TileStudio" 66 (zy m_TS_inserted) ∈ zG ∧ Cond.static (zy m_TS_inserted) ∈ zG := ⟨zG_T 318 (by decide +kernel) (by decide +kernel), zG_T 319 (by decide +kernel) (by decide +kernel)⟩
theorem lk_TS_70 : Cond.methodLink "TileStudio" 70 (zy m_Picture_withLayers) ∈ zG ∧ Cond.instanceMethod (zy m_Picture_withLayers) ∈ zG ∧ Cond.selects (zy m_Picture_withLayers).cls (zy m_Picture_withLayers) (zy m_Picture_withLayers) ∈ zG := ⟨zG_T 321 (by decide +kernel) (by decide +kernel), zG_T 322 (by decide +kernel) (by decide +kernel), zG_T 323 (by decide +kernel) (by decide +kernel)⟩
theorem lk_TS_74 : Cond.methodLink "TileStudio" 74 (zy m_History_add) ∈ zG ∧ Cond.instanceMethod (zy m_History_add) ∈ zG ∧ Cond.selects (zy m_History_add).cls (zy m_History_add) (zy m_History_add) ∈ zG := ⟨zG_T 327 (by decide +kernel) (by decide +kernel), zG_T 328 (by decide +kernel) (by decide +kernel), zG_T 329 (by decide +kernel) (by decide +kernel)⟩
theorem lk_TS_77 : Cond.methodLink "TileStudio" 77 (zy m_TS_pictureWithLayer) ∈ zG ∧ Cond.instanceMethod (zy m_TS_pictureWithLayer) ∈ zG ∧ Cond.selects (zy m_TS_pictureWithLayer).cls (zy m_TS_pictureWithLayer) (zy m_TS_pictureWithLayer) ∈ zG := ⟨zG_T 342 (by decide +kernel) (by decide +kernel), zG_T 344 (by decide +kernel) (by decide +kernel), zG_S 2 (by decide +kernel) (by decide +kernel)⟩
theorem lk_TS_81 : Cond.methodLink "TileStudio" 81 (zy m_TS_removed) ∈ zG ∧ Cond.static (zy m_TS_removed) ∈ zG := ⟨zG_T 346 (by decide +kernel) (by decide +kernel), zG_T 347 (by decide +kernel) (by decide +kernel)⟩
theorem lk_TS_85 : Cond.methodLink "TileStudio" 85 (zy m_Layer_withBlending) ∈ zG ∧ Cond.instanceMethod (zy m_Layer_withBlending) ∈ zG ∧ Cond.selects (zy m_Layer_withBlending).cls (zy m_Layer_withBlending) (zy m_Layer_withBlending) ∈ zG := ⟨zG_T 363 (by decide +kernel) (by decide +kernel), zG_T 364 (by decide +kernel) (by decide +kernel), zG_T 365 (by decide +kernel) (by decide +kernel)⟩
theorem lk_TS_89 : Cond.methodLink "TileStudio" 89 (zy m_Picture_withLayer) ∈ zG ∧ Cond.instanceMethod (zy m_Picture_withLayer) ∈ zG ∧ Cond.selects (zy m_Picture_withLayer).cls (zy m_Picture_withLayer) (zy m_Picture_withLayer) ∈ zG := ⟨zG_T 369 (by decide +kernel) (by decide +kernel), zG_T 370 (by decide +kernel) (by decide +kernel), zG_T 371 (by decide +kernel) (by decide +kernel)⟩
theorem lk_TS_94 : Cond.methodLink "TileStudio" 94 (zy m_TS_addEllipse) ∈ zG ∧ Cond.static (zy m_TS_addEllipse) ∈ zG := ⟨zG_T 383 (by decide +kernel) (by decide +kernel), zG_T 384 (by decide +kernel) (by decide +kernel)⟩
theorem lk_TS_101 : Cond.methodLink "TileStudio" 101 (zy m_TS_joined) ∈ zG ∧ Cond.static (zy m_TS_joined) ∈ zG := ⟨zG_T 390 (by decide +kernel) (by decide +kernel), zG_T 391 (by decide +kernel) (by decide +kernel)⟩
theorem lk_TS_105 : Cond.methodLink "TileStudio" 105 (zy m_Picture_withSelection) ∈ zG ∧ Cond.instanceMethod (zy m_Picture_withSelection) ∈ zG ∧ Cond.selects (zy m_Picture_withSelection).cls (zy m_Picture_withSelection) (zy m_Picture_withSelection) ∈ zG := ⟨zG_T 396 (by decide +kernel) (by decide +kernel), zG_T 397 (by decide +kernel) (by decide +kernel), zG_T 398 (by decide +kernel) (by decide +kernel)⟩
