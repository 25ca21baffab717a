theorem dL_word_0 : decode cL_word 0 = .ok (.aload_n 3, 1) := by decide +kernel
theorem dL_word_1 : decode cL_word 1 = .ok (.iconst 0, 1) := by decide +kernel
theorem dL_word_2 : decode cL_word 2 = .ok (.aload_n 0, 1) := by decide +kernel
theorem dL_word_3 : decode cL_word 3 = .ok (.iload_n 1, 1) := by decide +kernel
theorem dL_word_4 : decode cL_word 4 = .ok (.iload_n 2, 1) := by decide +kernel
theorem dL_word_5 : decode cL_word 5 = .ok (.invokevirtual 7, 3) := by decide +kernel
theorem dL_word_8 : decode cL_word 8 = .ok (.i2l, 1) := by decide +kernel
theorem dL_word_9 : decode cL_word 9 = .ok (.lastore, 1) := by decide +kernel
theorem dL_word_10 : decode cL_word 10 = .ok (.goto 7, 3) := by decide +kernel
theorem dL_word_13 : decode cL_word 13 = .ok (.astore 4, 2) := by decide +kernel
theorem dL_word_15 : decode cL_word 15 = .ok (.iconst 1, 1) := by decide +kernel
theorem dL_word_16 : decode cL_word 16 = .ok (.ireturn, 1) := by decide +kernel
theorem dL_word_17 : decode cL_word 17 = .ok (.iconst 0, 1) := by decide +kernel
theorem dL_word_18 : decode cL_word 18 = .ok (.ireturn, 1) := by decide +kernel
theorem dL_attribute_0 : decode cL_attribute 0 = .ok (.aload_n 0, 1) := by decide +kernel
theorem dL_attribute_1 : decode cL_attribute 1 = .ok (.iload_n 1, 1) := by decide +kernel
theorem dL_attribute_2 : decode cL_attribute 2 = .ok (.iload_n 2, 1) := by decide +kernel
theorem dL_attribute_3 : decode cL_attribute 3 = .ok (.iload_n 3, 1) := by decide +kernel
theorem dL_attribute_4 : decode cL_attribute 4 = .ok (.iload 4, 2) := by decide +kernel
theorem dL_attribute_6 : decode cL_attribute 6 = .ok (.iload 5, 2) := by decide +kernel
theorem dL_attribute_8 : decode cL_attribute 8 = .ok (.invokevirtual 15, 3) := by decide +kernel
theorem dL_attribute_11 : decode cL_attribute 11 = .ok (.goto 7, 3) := by decide +kernel
theorem dL_attribute_14 : decode cL_attribute 14 = .ok (.astore 6, 2) := by decide +kernel
theorem dL_attribute_16 : decode cL_attribute 16 = .ok (.iconst 1, 1) := by decide +kernel
theorem dL_attribute_17 : decode cL_attribute 17 = .ok (.ireturn, 1) := by decide +kernel
theorem dL_attribute_18 : decode cL_attribute 18 = .ok (.iconst 0, 1) := by decide +kernel
theorem dL_attribute_19 : decode cL_attribute 19 = .ok (.ireturn, 1) := by decide +kernel
theorem dL_fetch_0 : decode cL_fetch 0 = .ok (.aload 4, 2) := by decide +kernel
theorem dL_fetch_2 : decode cL_fetch 2 = .ok (.iconst 0, 1) := by decide +kernel
theorem dL_fetch_3 : decode cL_fetch 3 = .ok (.aload_n 0, 1) := by decide +kernel
theorem dL_fetch_4 : decode cL_fetch 4 = .ok (.iload_n 1, 1) := by decide +kernel
theorem dL_fetch_5 : decode cL_fetch 5 = .ok (.iload_n 2, 1) := by decide +kernel
theorem dL_fetch_6 : decode cL_fetch 6 = .ok (.iload_n 3, 1) := by decide +kernel
theorem dL_fetch_7 : decode cL_fetch 7 = .ok (.invokevirtual 21, 3) := by decide +kernel
theorem dL_fetch_10 : decode cL_fetch 10 = .ok (.i2l, 1) := by decide +kernel
theorem dL_fetch_11 : decode cL_fetch 11 = .ok (.lastore, 1) := by decide +kernel
theorem dL_fetch_12 : decode cL_fetch 12 = .ok (.goto 7, 3) := by decide +kernel
theorem dL_fetch_15 : decode cL_fetch 15 = .ok (.astore 5, 2) := by decide +kernel
theorem dL_fetch_17 : decode cL_fetch 17 = .ok (.iconst 1, 1) := by decide +kernel
theorem dL_fetch_18 : decode cL_fetch 18 = .ok (.ireturn, 1) := by decide +kernel
theorem dL_fetch_19 : decode cL_fetch 19 = .ok (.iconst 0, 1) := by decide +kernel
theorem dL_fetch_20 : decode cL_fetch 20 = .ok (.ireturn, 1) := by decide +kernel
theorem dL_index_0 : decode cL_index 0 = .ok (.aload 4, 2) := by decide +kernel
theorem dL_index_2 : decode cL_index 2 = .ok (.iconst 0, 1) := by decide +kernel
theorem dL_index_3 : decode cL_index 3 = .ok (.aload_n 0, 1) := by decide +kernel
theorem dL_index_4 : decode cL_index 4 = .ok (.iload_n 1, 1) := by decide +kernel
theorem dL_index_5 : decode cL_index 5 = .ok (.iload_n 2, 1) := by decide +kernel
theorem dL_index_6 : decode cL_index 6 = .ok (.iload_n 3, 1) := by decide +kernel
theorem dL_index_7 : decode cL_index 7 = .ok (.invokevirtual 25, 3) := by decide +kernel
theorem dL_index_10 : decode cL_index 10 = .ok (.i2l, 1) := by decide +kernel
theorem dL_index_11 : decode cL_index 11 = .ok (.lastore, 1) := by decide +kernel
theorem dL_index_12 : decode cL_index 12 = .ok (.goto 7, 3) := by decide +kernel
theorem dL_index_15 : decode cL_index 15 = .ok (.astore 5, 2) := by decide +kernel
theorem dL_index_17 : decode cL_index 17 = .ok (.iconst 1, 1) := by decide +kernel
theorem dL_index_18 : decode cL_index 18 = .ok (.ireturn, 1) := by decide +kernel
theorem dL_index_19 : decode cL_index 19 = .ok (.iconst 0, 1) := by decide +kernel
theorem dL_index_20 : decode cL_index 20 = .ok (.ireturn, 1) := by decide +kernel
theorem dL_triangles_0 : decode cL_triangles 0 = .ok (.aload_n 3, 1) := by decide +kernel
theorem dL_triangles_1 : decode cL_triangles 1 = .ok (.iconst 0, 1) := by decide +kernel
theorem dL_triangles_2 : decode cL_triangles 2 = .ok (.aload_n 0, 1) := by decide +kernel
theorem dL_triangles_3 : decode cL_triangles 3 = .ok (.iload_n 1, 1) := by decide +kernel
theorem dL_triangles_4 : decode cL_triangles 4 = .ok (.iload_n 2, 1) := by decide +kernel
theorem dL_triangles_5 : decode cL_triangles 5 = .ok (.invokevirtual 28, 3) := by decide +kernel
theorem dL_triangles_8 : decode cL_triangles 8 = .ok (.i2l, 1) := by decide +kernel
theorem dL_triangles_9 : decode cL_triangles 9 = .ok (.lastore, 1) := by decide +kernel
theorem dL_triangles_10 : decode cL_triangles 10 = .ok (.goto 7, 3) := by decide +kernel
theorem dL_triangles_13 : decode cL_triangles 13 = .ok (.astore 4, 2) := by decide +kernel
theorem dL_triangles_15 : decode cL_triangles 15 = .ok (.iconst 1, 1) := by decide +kernel
theorem dL_triangles_16 : decode cL_triangles 16 = .ok (.ireturn, 1) := by decide +kernel
theorem dL_triangles_17 : decode cL_triangles 17 = .ok (.iconst 0, 1) := by decide +kernel
theorem dL_triangles_18 : decode cL_triangles 18 = .ok (.ireturn, 1) := by decide +kernel
theorem dL_corner_0 : decode cL_corner 0 = .ok (.aload 4, 2) := by decide +kernel
theorem dL_corner_2 : decode cL_corner 2 = .ok (.iconst 0, 1) := by decide +kernel
theorem dL_corner_3 : decode cL_corner 3 = .ok (.aload_n 0, 1) := by decide +kernel
theorem dL_corner_4 : decode cL_corner 4 = .ok (.iload_n 1, 1) := by decide +kernel
theorem dL_corner_5 : decode cL_corner 5 = .ok (.iload_n 2, 1) := by decide +kernel
theorem dL_corner_6 : decode cL_corner 6 = .ok (.iload_n 3, 1) := by decide +kernel
theorem dL_corner_7 : decode cL_corner 7 = .ok (.invokevirtual 31, 3) := by decide +kernel
theorem dL_corner_10 : decode cL_corner 10 = .ok (.i2l, 1) := by decide +kernel
theorem dL_corner_11 : decode cL_corner 11 = .ok (.lastore, 1) := by decide +kernel
theorem dL_corner_12 : decode cL_corner 12 = .ok (.goto 7, 3) := by decide +kernel
theorem dL_corner_15 : decode cL_corner 15 = .ok (.astore 5, 2) := by decide +kernel
theorem dL_corner_17 : decode cL_corner 17 = .ok (.iconst 1, 1) := by decide +kernel
theorem dL_corner_18 : decode cL_corner 18 = .ok (.ireturn, 1) := by decide +kernel
theorem dL_corner_19 : decode cL_corner 19 = .ok (.iconst 0, 1) := by decide +kernel
theorem dL_corner_20 : decode cL_corner 20 = .ok (.ireturn, 1) := by decide +kernel
theorem dL_place_0 : decode cL_place 0 = .ok (.aload_n 0, 1) := by decide +kernel
theorem dL_place_1 : decode cL_place 1 = .ok (.iload_n 1, 1) := by decide +kernel
theorem dL_place_2 : decode cL_place 2 = .ok (.iload_n 2, 1) := by decide +kernel
theorem dL_place_3 : decode cL_place 3 = .ok (.iload_n 3, 1) := by decide +kernel
theorem dL_place_4 : decode cL_place 4 = .ok (.iload 4, 2) := by decide +kernel
theorem dL_place_6 : decode cL_place 6 = .ok (.iload 5, 2) := by decide +kernel
theorem dL_place_8 : decode cL_place 8 = .ok (.invokevirtual 34, 3) := by decide +kernel
theorem dL_place_11 : decode cL_place 11 = .ok (.goto 7, 3) := by decide +kernel
theorem dL_place_14 : decode cL_place 14 = .ok (.astore 6, 2) := by decide +kernel
theorem dL_place_16 : decode cL_place 16 = .ok (.iconst 1, 1) := by decide +kernel
theorem dL_place_17 : decode cL_place 17 = .ok (.ireturn, 1) := by decide +kernel
theorem dL_place_18 : decode cL_place 18 = .ok (.iconst 0, 1) := by decide +kernel
theorem dL_place_19 : decode cL_place 19 = .ok (.ireturn, 1) := by decide +kernel
theorem dL_vary_0 : decode cL_vary 0 = .ok (.aload_n 0, 1) := by decide +kernel
theorem dL_vary_1 : decode cL_vary 1 = .ok (.iload_n 1, 1) := by decide +kernel
theorem dL_vary_2 : decode cL_vary 2 = .ok (.iload_n 2, 1) := by decide +kernel
theorem dL_vary_3 : decode cL_vary 3 = .ok (.iload_n 3, 1) := by decide +kernel
theorem dL_vary_4 : decode cL_vary 4 = .ok (.iload 4, 2) := by decide +kernel
theorem dL_vary_6 : decode cL_vary 6 = .ok (.iload 5, 2) := by decide +kernel
theorem dL_vary_8 : decode cL_vary 8 = .ok (.iload 6, 2) := by decide +kernel
theorem dL_vary_10 : decode cL_vary 10 = .ok (.invokevirtual 37, 3) := by decide +kernel
theorem dL_vary_13 : decode cL_vary 13 = .ok (.goto 7, 3) := by decide +kernel
theorem dL_vary_16 : decode cL_vary 16 = .ok (.astore 7, 2) := by decide +kernel
theorem dL_vary_18 : decode cL_vary 18 = .ok (.iconst 1, 1) := by decide +kernel
theorem dL_vary_19 : decode cL_vary 19 = .ok (.ireturn, 1) := by decide +kernel
theorem dL_vary_20 : decode cL_vary 20 = .ok (.iconst 0, 1) := by decide +kernel
theorem dL_vary_21 : decode cL_vary 21 = .ok (.ireturn, 1) := by decide +kernel
theorem dL_view_0 : decode cL_view 0 = .ok (.aload_n 0, 1) := by decide +kernel
theorem dL_view_1 : decode cL_view 1 = .ok (.iload_n 1, 1) := by decide +kernel
theorem dL_view_2 : decode cL_view 2 = .ok (.iload_n 2, 1) := by decide +kernel
theorem dL_view_3 : decode cL_view 3 = .ok (.iload_n 3, 1) := by decide +kernel
theorem dL_view_4 : decode cL_view 4 = .ok (.iload 4, 2) := by decide +kernel
theorem dL_view_6 : decode cL_view 6 = .ok (.iload 5, 2) := by decide +kernel
theorem dL_view_8 : decode cL_view 8 = .ok (.iload 6, 2) := by decide +kernel
theorem dL_view_10 : decode cL_view 10 = .ok (.invokevirtual 41, 3) := by decide +kernel
theorem dL_view_13 : decode cL_view 13 = .ok (.goto 7, 3) := by decide +kernel
theorem dL_view_16 : decode cL_view 16 = .ok (.astore 7, 2) := by decide +kernel
theorem dL_view_18 : decode cL_view 18 = .ok (.iconst 1, 1) := by decide +kernel
theorem dL_view_19 : decode cL_view 19 = .ok (.ireturn, 1) := by decide +kernel
theorem dL_view_20 : decode cL_view 20 = .ok (.iconst 0, 1) := by decide +kernel
theorem dL_view_21 : decode cL_view 21 = .ok (.ireturn, 1) := by decide +kernel
theorem dL_faces_0 : decode cL_faces 0 = .ok (.aload_n 0, 1) := by decide +kernel
theorem dL_faces_1 : decode cL_faces 1 = .ok (.iload_n 1, 1) := by decide +kernel
theorem dL_faces_2 : decode cL_faces 2 = .ok (.iload_n 2, 1) := by decide +kernel
theorem dL_faces_3 : decode cL_faces 3 = .ok (.invokevirtual 44, 3) := by decide +kernel
theorem dL_faces_6 : decode cL_faces 6 = .ok (.goto 6, 3) := by decide +kernel
theorem dL_faces_9 : decode cL_faces 9 = .ok (.astore_n 3, 1) := by decide +kernel
theorem dL_faces_10 : decode cL_faces 10 = .ok (.iconst 1, 1) := by decide +kernel
theorem dL_faces_11 : decode cL_faces 11 = .ok (.ireturn, 1) := by decide +kernel
theorem dL_faces_12 : decode cL_faces 12 = .ok (.iconst 0, 1) := by decide +kernel
theorem dL_faces_13 : decode cL_faces 13 = .ok (.ireturn, 1) := by decide +kernel
theorem dL_side_0 : decode cL_side 0 = .ok (.aload_n 2, 1) := by decide +kernel
theorem dL_side_1 : decode cL_side 1 = .ok (.iconst 0, 1) := by decide +kernel
theorem dL_side_2 : decode cL_side 2 = .ok (.aload_n 0, 1) := by decide +kernel
theorem dL_side_3 : decode cL_side 3 = .ok (.iload_n 1, 1) := by decide +kernel
theorem dL_side_4 : decode cL_side 4 = .ok (.invokevirtual 48, 3) := by decide +kernel
theorem dL_side_7 : decode cL_side 7 = .ok (.i2l, 1) := by decide +kernel
theorem dL_side_8 : decode cL_side 8 = .ok (.lastore, 1) := by decide +kernel
theorem dL_side_9 : decode cL_side 9 = .ok (.goto 6, 3) := by decide +kernel
theorem dL_side_12 : decode cL_side 12 = .ok (.astore_n 3, 1) := by decide +kernel
theorem dL_side_13 : decode cL_side 13 = .ok (.iconst 1, 1) := by decide +kernel
theorem dL_side_14 : decode cL_side 14 = .ok (.ireturn, 1) := by decide +kernel
theorem dL_side_15 : decode cL_side 15 = .ok (.iconst 0, 1) := by decide +kernel
theorem dL_side_16 : decode cL_side 16 = .ok (.ireturn, 1) := by decide +kernel
theorem dL_got_0 : decode cL_got 0 = .ok (.aload 4, 2) := by decide +kernel
theorem dL_got_2 : decode cL_got 2 = .ok (.iconst 0, 1) := by decide +kernel
theorem dL_got_3 : decode cL_got 3 = .ok (.aload_n 0, 1) := by decide +kernel
theorem dL_got_4 : decode cL_got 4 = .ok (.iload_n 1, 1) := by decide +kernel
theorem dL_got_5 : decode cL_got 5 = .ok (.iload_n 2, 1) := by decide +kernel
theorem dL_got_6 : decode cL_got 6 = .ok (.iload_n 3, 1) := by decide +kernel
theorem dL_got_7 : decode cL_got 7 = .ok (.invokevirtual 52, 3) := by decide +kernel
theorem dL_got_10 : decode cL_got 10 = .ok (.i2l, 1) := by decide +kernel
theorem dL_got_11 : decode cL_got 11 = .ok (.lastore, 1) := by decide +kernel
theorem dL_got_12 : decode cL_got 12 = .ok (.goto 11, 3) := by decide +kernel
theorem dL_got_15 : decode cL_got 15 = .ok (.astore 5, 2) := by decide +kernel
theorem dL_got_17 : decode cL_got 17 = .ok (.iconst 1, 1) := by decide +kernel
theorem dL_got_18 : decode cL_got 18 = .ok (.ireturn, 1) := by decide +kernel
theorem dL_got_19 : decode cL_got 19 = .ok (.astore 5, 2) := by decide +kernel
theorem dL_got_21 : decode cL_got 21 = .ok (.iconst 2, 1) := by decide +kernel
theorem dL_got_22 : decode cL_got 22 = .ok (.ireturn, 1) := by decide +kernel
theorem dL_got_23 : decode cL_got 23 = .ok (.iconst 0, 1) := by decide +kernel
theorem dL_got_24 : decode cL_got 24 = .ok (.ireturn, 1) := by decide +kernel
theorem dL_area_0 : decode cL_area 0 = .ok (.aload_n 2, 1) := by decide +kernel
theorem dL_area_1 : decode cL_area 1 = .ok (.iconst 0, 1) := by decide +kernel
theorem dL_area_2 : decode cL_area 2 = .ok (.aload_n 0, 1) := by decide +kernel
theorem dL_area_3 : decode cL_area 3 = .ok (.iload_n 1, 1) := by decide +kernel
theorem dL_area_4 : decode cL_area 4 = .ok (.invokevirtual 55, 3) := by decide +kernel
theorem dL_area_7 : decode cL_area 7 = .ok (.lastore, 1) := by decide +kernel
theorem dL_area_8 : decode cL_area 8 = .ok (.goto 6, 3) := by decide +kernel
theorem dL_area_11 : decode cL_area 11 = .ok (.astore_n 3, 1) := by decide +kernel
theorem dL_area_12 : decode cL_area 12 = .ok (.iconst 1, 1) := by decide +kernel
theorem dL_area_13 : decode cL_area 13 = .ok (.ireturn, 1) := by decide +kernel
theorem dL_area_14 : decode cL_area 14 = .ok (.iconst 0, 1) := by decide +kernel
theorem dL_area_15 : decode cL_area 15 = .ok (.ireturn, 1) := by decide +kernel
