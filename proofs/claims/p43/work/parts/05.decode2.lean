theorem dL_crayon_0 : decode cL_crayon 0 = .ok (.aload_n 0, 1) := by decide +kernel
theorem dL_crayon_1 : decode cL_crayon 1 = .ok (.iload_n 1, 1) := by decide +kernel
theorem dL_crayon_2 : decode cL_crayon 2 = .ok (.invokevirtual 7, 3) := by decide +kernel
theorem dL_crayon_5 : decode cL_crayon 5 = .ok (.i2l, 1) := by decide +kernel
theorem dL_crayon_6 : decode cL_crayon 6 = .ok (.lreturn, 1) := by decide +kernel
theorem dL_crayon_7 : decode cL_crayon 7 = .ok (.astore_n 2, 1) := by decide +kernel
theorem dL_crayon_8 : decode cL_crayon 8 = .ok (.ldc2_w 17, 3) := by decide +kernel
theorem dL_crayon_11 : decode cL_crayon 11 = .ok (.lreturn, 1) := by decide +kernel
theorem dL_crayon_12 : decode cL_crayon 12 = .ok (.astore_n 2, 1) := by decide +kernel
theorem dL_crayon_13 : decode cL_crayon 13 = .ok (.ldc2_w 21, 3) := by decide +kernel
theorem dL_crayon_16 : decode cL_crayon 16 = .ok (.lreturn, 1) := by decide +kernel
theorem dL_crayonOf_0 : decode cL_crayonOf 0 = .ok (.aload_n 0, 1) := by decide +kernel
theorem dL_crayonOf_1 : decode cL_crayonOf 1 = .ok (.iload_n 1, 1) := by decide +kernel
theorem dL_crayonOf_2 : decode cL_crayonOf 2 = .ok (.invokevirtual 23, 3) := by decide +kernel
theorem dL_crayonOf_5 : decode cL_crayonOf 5 = .ok (.invokestatic 27, 3) := by decide +kernel
theorem dL_crayonOf_8 : decode cL_crayonOf 8 = .ok (.i2l, 1) := by decide +kernel
theorem dL_crayonOf_9 : decode cL_crayonOf 9 = .ok (.lreturn, 1) := by decide +kernel
theorem dL_crayonOf_10 : decode cL_crayonOf 10 = .ok (.astore_n 2, 1) := by decide +kernel
theorem dL_crayonOf_11 : decode cL_crayonOf 11 = .ok (.ldc2_w 17, 3) := by decide +kernel
theorem dL_crayonOf_14 : decode cL_crayonOf 14 = .ok (.lreturn, 1) := by decide +kernel
theorem dL_letter_0 : decode cL_letter 0 = .ok (.aload_n 0, 1) := by decide +kernel
theorem dL_letter_1 : decode cL_letter 1 = .ok (.iload_n 1, 1) := by decide +kernel
theorem dL_letter_2 : decode cL_letter 2 = .ok (.iload_n 2, 1) := by decide +kernel
theorem dL_letter_3 : decode cL_letter 3 = .ok (.iload_n 3, 1) := by decide +kernel
theorem dL_letter_4 : decode cL_letter 4 = .ok (.iload 4, 2) := by decide +kernel
theorem dL_letter_6 : decode cL_letter 6 = .ok (.invokevirtual 35, 3) := by decide +kernel
theorem dL_letter_9 : decode cL_letter 9 = .ok (.i2l, 1) := by decide +kernel
theorem dL_letter_10 : decode cL_letter 10 = .ok (.lreturn, 1) := by decide +kernel
theorem dL_letter_11 : decode cL_letter 11 = .ok (.astore 5, 2) := by decide +kernel
theorem dL_letter_13 : decode cL_letter 13 = .ok (.ldc2_w 17, 3) := by decide +kernel
theorem dL_letter_16 : decode cL_letter 16 = .ok (.lreturn, 1) := by decide +kernel
theorem dL_letter_17 : decode cL_letter 17 = .ok (.astore 5, 2) := by decide +kernel
theorem dL_letter_19 : decode cL_letter 19 = .ok (.ldc2_w 21, 3) := by decide +kernel
theorem dL_letter_22 : decode cL_letter 22 = .ok (.lreturn, 1) := by decide +kernel
theorem dL_letter_23 : decode cL_letter 23 = .ok (.astore 5, 2) := by decide +kernel
theorem dL_letter_25 : decode cL_letter 25 = .ok (.ldc2_w 39, 3) := by decide +kernel
theorem dL_letter_28 : decode cL_letter 28 = .ok (.lreturn, 1) := by decide +kernel
theorem dL_parcel_0 : decode cL_parcel 0 = .ok (.aload_n 0, 1) := by decide +kernel
theorem dL_parcel_1 : decode cL_parcel 1 = .ok (.iload_n 1, 1) := by decide +kernel
theorem dL_parcel_2 : decode cL_parcel 2 = .ok (.iload_n 2, 1) := by decide +kernel
theorem dL_parcel_3 : decode cL_parcel 3 = .ok (.iload_n 3, 1) := by decide +kernel
theorem dL_parcel_4 : decode cL_parcel 4 = .ok (.iload 4, 2) := by decide +kernel
theorem dL_parcel_6 : decode cL_parcel 6 = .ok (.iload 5, 2) := by decide +kernel
theorem dL_parcel_8 : decode cL_parcel 8 = .ok (.invokevirtual 41, 3) := by decide +kernel
theorem dL_parcel_11 : decode cL_parcel 11 = .ok (.i2l, 1) := by decide +kernel
theorem dL_parcel_12 : decode cL_parcel 12 = .ok (.lreturn, 1) := by decide +kernel
theorem dL_parcel_13 : decode cL_parcel 13 = .ok (.astore 6, 2) := by decide +kernel
theorem dL_parcel_15 : decode cL_parcel 15 = .ok (.ldc2_w 17, 3) := by decide +kernel
theorem dL_parcel_18 : decode cL_parcel 18 = .ok (.lreturn, 1) := by decide +kernel
theorem dL_parcel_19 : decode cL_parcel 19 = .ok (.astore 6, 2) := by decide +kernel
theorem dL_parcel_21 : decode cL_parcel 21 = .ok (.ldc2_w 21, 3) := by decide +kernel
theorem dL_parcel_24 : decode cL_parcel 24 = .ok (.lreturn, 1) := by decide +kernel
theorem dL_parcel_25 : decode cL_parcel 25 = .ok (.astore 6, 2) := by decide +kernel
theorem dL_parcel_27 : decode cL_parcel 27 = .ok (.ldc2_w 39, 3) := by decide +kernel
theorem dL_parcel_30 : decode cL_parcel 30 = .ok (.lreturn, 1) := by decide +kernel
theorem dL_itemOf_0 : decode cL_itemOf 0 = .ok (.aload_n 0, 1) := by decide +kernel
theorem dL_itemOf_1 : decode cL_itemOf 1 = .ok (.iload_n 1, 1) := by decide +kernel
theorem dL_itemOf_2 : decode cL_itemOf 2 = .ok (.iload_n 2, 1) := by decide +kernel
theorem dL_itemOf_3 : decode cL_itemOf 3 = .ok (.invokevirtual 45, 3) := by decide +kernel
theorem dL_itemOf_6 : decode cL_itemOf 6 = .ok (.i2l, 1) := by decide +kernel
theorem dL_itemOf_7 : decode cL_itemOf 7 = .ok (.lreturn, 1) := by decide +kernel
theorem dL_itemOf_8 : decode cL_itemOf 8 = .ok (.astore_n 3, 1) := by decide +kernel
theorem dL_itemOf_9 : decode cL_itemOf 9 = .ok (.ldc2_w 17, 3) := by decide +kernel
theorem dL_itemOf_12 : decode cL_itemOf 12 = .ok (.lreturn, 1) := by decide +kernel
theorem dL_itemOf_13 : decode cL_itemOf 13 = .ok (.astore_n 3, 1) := by decide +kernel
theorem dL_itemOf_14 : decode cL_itemOf 14 = .ok (.ldc2_w 21, 3) := by decide +kernel
theorem dL_itemOf_17 : decode cL_itemOf 17 = .ok (.lreturn, 1) := by decide +kernel
theorem dL_reads_0 : decode cL_reads 0 = .ok (.aload_n 0, 1) := by decide +kernel
theorem dL_reads_1 : decode cL_reads 1 = .ok (.iload_n 1, 1) := by decide +kernel
theorem dL_reads_2 : decode cL_reads 2 = .ok (.invokevirtual 49, 3) := by decide +kernel
theorem dL_reads_5 : decode cL_reads 5 = .ok (.i2l, 1) := by decide +kernel
theorem dL_reads_6 : decode cL_reads 6 = .ok (.lreturn, 1) := by decide +kernel
theorem dL_reads_7 : decode cL_reads 7 = .ok (.astore_n 2, 1) := by decide +kernel
theorem dL_reads_8 : decode cL_reads 8 = .ok (.ldc2_w 17, 3) := by decide +kernel
theorem dL_reads_11 : decode cL_reads 11 = .ok (.lreturn, 1) := by decide +kernel
theorem dL_reads_12 : decode cL_reads 12 = .ok (.astore_n 2, 1) := by decide +kernel
theorem dL_reads_13 : decode cL_reads 13 = .ok (.ldc2_w 21, 3) := by decide +kernel
theorem dL_reads_16 : decode cL_reads 16 = .ok (.lreturn, 1) := by decide +kernel
theorem dL_string_0 : decode cL_string 0 = .ok (.aload_n 0, 1) := by decide +kernel
theorem dL_string_1 : decode cL_string 1 = .ok (.iload_n 1, 1) := by decide +kernel
theorem dL_string_2 : decode cL_string 2 = .ok (.invokevirtual 58, 3) := by decide +kernel
theorem dL_string_5 : decode cL_string 5 = .ok (.i2l, 1) := by decide +kernel
theorem dL_string_6 : decode cL_string 6 = .ok (.lreturn, 1) := by decide +kernel
theorem dL_string_7 : decode cL_string 7 = .ok (.astore_n 2, 1) := by decide +kernel
theorem dL_string_8 : decode cL_string 8 = .ok (.ldc2_w 17, 3) := by decide +kernel
theorem dL_string_11 : decode cL_string 11 = .ok (.lreturn, 1) := by decide +kernel
theorem dL_lettersOf_0 : decode cL_lettersOf 0 = .ok (.aload_n 0, 1) := by decide +kernel
theorem dL_lettersOf_1 : decode cL_lettersOf 1 = .ok (.iload_n 1, 1) := by decide +kernel
theorem dL_lettersOf_2 : decode cL_lettersOf 2 = .ok (.iload_n 2, 1) := by decide +kernel
theorem dL_lettersOf_3 : decode cL_lettersOf 3 = .ok (.invokevirtual 61, 3) := by decide +kernel
theorem dL_lettersOf_6 : decode cL_lettersOf 6 = .ok (.i2l, 1) := by decide +kernel
theorem dL_lettersOf_7 : decode cL_lettersOf 7 = .ok (.lreturn, 1) := by decide +kernel
theorem dL_lettersOf_8 : decode cL_lettersOf 8 = .ok (.astore_n 3, 1) := by decide +kernel
theorem dL_lettersOf_9 : decode cL_lettersOf 9 = .ok (.ldc2_w 17, 3) := by decide +kernel
theorem dL_lettersOf_12 : decode cL_lettersOf 12 = .ok (.lreturn, 1) := by decide +kernel
theorem dL_lettersOf_13 : decode cL_lettersOf 13 = .ok (.astore_n 3, 1) := by decide +kernel
theorem dL_lettersOf_14 : decode cL_lettersOf 14 = .ok (.ldc2_w 21, 3) := by decide +kernel
theorem dL_lettersOf_17 : decode cL_lettersOf 17 = .ok (.lreturn, 1) := by decide +kernel
theorem dL_lettersAgain_0 : decode cL_lettersAgain 0 = .ok (.aload_n 0, 1) := by decide +kernel
theorem dL_lettersAgain_1 : decode cL_lettersAgain 1 = .ok (.iload_n 1, 1) := by decide +kernel
theorem dL_lettersAgain_2 : decode cL_lettersAgain 2 = .ok (.iload_n 2, 1) := by decide +kernel
theorem dL_lettersAgain_3 : decode cL_lettersAgain 3 = .ok (.invokevirtual 64, 3) := by decide +kernel
theorem dL_lettersAgain_6 : decode cL_lettersAgain 6 = .ok (.i2l, 1) := by decide +kernel
theorem dL_lettersAgain_7 : decode cL_lettersAgain 7 = .ok (.lreturn, 1) := by decide +kernel
theorem dL_lettersAgain_8 : decode cL_lettersAgain 8 = .ok (.astore_n 3, 1) := by decide +kernel
theorem dL_lettersAgain_9 : decode cL_lettersAgain 9 = .ok (.ldc2_w 17, 3) := by decide +kernel
theorem dL_lettersAgain_12 : decode cL_lettersAgain 12 = .ok (.lreturn, 1) := by decide +kernel
theorem dL_lettersAgain_13 : decode cL_lettersAgain 13 = .ok (.astore_n 3, 1) := by decide +kernel
theorem dL_lettersAgain_14 : decode cL_lettersAgain 14 = .ok (.ldc2_w 21, 3) := by decide +kernel
theorem dL_lettersAgain_17 : decode cL_lettersAgain 17 = .ok (.lreturn, 1) := by decide +kernel
theorem dL_ranked_0 : decode cL_ranked 0 = .ok (.aload_n 0, 1) := by decide +kernel
theorem dL_ranked_1 : decode cL_ranked 1 = .ok (.iload_n 1, 1) := by decide +kernel
theorem dL_ranked_2 : decode cL_ranked 2 = .ok (.invokevirtual 67, 3) := by decide +kernel
theorem dL_ranked_5 : decode cL_ranked 5 = .ok (.i2l, 1) := by decide +kernel
theorem dL_ranked_6 : decode cL_ranked 6 = .ok (.lreturn, 1) := by decide +kernel
theorem dL_ranked_7 : decode cL_ranked 7 = .ok (.astore_n 2, 1) := by decide +kernel
theorem dL_ranked_8 : decode cL_ranked 8 = .ok (.ldc2_w 17, 3) := by decide +kernel
theorem dL_ranked_11 : decode cL_ranked 11 = .ok (.lreturn, 1) := by decide +kernel
theorem dL_potato_0 : decode cL_potato 0 = .ok (.aload_n 0, 1) := by decide +kernel
theorem dL_potato_1 : decode cL_potato 1 = .ok (.invokevirtual 70, 3) := by decide +kernel
theorem dL_potato_4 : decode cL_potato 4 = .ok (.i2l, 1) := by decide +kernel
theorem dL_potato_5 : decode cL_potato 5 = .ok (.lreturn, 1) := by decide +kernel
theorem dL_potato_6 : decode cL_potato 6 = .ok (.astore_n 1, 1) := by decide +kernel
theorem dL_potato_7 : decode cL_potato 7 = .ok (.ldc2_w 17, 3) := by decide +kernel
theorem dL_potato_10 : decode cL_potato 10 = .ok (.lreturn, 1) := by decide +kernel
theorem dL_firmness_0 : decode cL_firmness 0 = .ok (.aload_n 0, 1) := by decide +kernel
theorem dL_firmness_1 : decode cL_firmness 1 = .ok (.iload_n 1, 1) := by decide +kernel
theorem dL_firmness_2 : decode cL_firmness 2 = .ok (.invokevirtual 74, 3) := by decide +kernel
theorem dL_firmness_5 : decode cL_firmness 5 = .ok (.invokestatic 27, 3) := by decide +kernel
theorem dL_firmness_8 : decode cL_firmness 8 = .ok (.i2l, 1) := by decide +kernel
theorem dL_firmness_9 : decode cL_firmness 9 = .ok (.lreturn, 1) := by decide +kernel
theorem dL_firmness_10 : decode cL_firmness 10 = .ok (.astore_n 2, 1) := by decide +kernel
theorem dL_firmness_11 : decode cL_firmness 11 = .ok (.ldc2_w 17, 3) := by decide +kernel
theorem dL_firmness_14 : decode cL_firmness 14 = .ok (.lreturn, 1) := by decide +kernel
theorem dL_ink_0 : decode cL_ink 0 = .ok (.aload_n 0, 1) := by decide +kernel
theorem dL_ink_1 : decode cL_ink 1 = .ok (.iload_n 1, 1) := by decide +kernel
theorem dL_ink_2 : decode cL_ink 2 = .ok (.invokevirtual 86, 3) := by decide +kernel
theorem dL_ink_5 : decode cL_ink 5 = .ok (.i2l, 1) := by decide +kernel
theorem dL_ink_6 : decode cL_ink 6 = .ok (.lreturn, 1) := by decide +kernel
theorem dL_ink_7 : decode cL_ink 7 = .ok (.astore_n 2, 1) := by decide +kernel
theorem dL_ink_8 : decode cL_ink 8 = .ok (.ldc2_w 17, 3) := by decide +kernel
theorem dL_ink_11 : decode cL_ink 11 = .ok (.lreturn, 1) := by decide +kernel
theorem dL_inkNow_0 : decode cL_inkNow 0 = .ok (.aload_n 0, 1) := by decide +kernel
theorem dL_inkNow_1 : decode cL_inkNow 1 = .ok (.invokevirtual 89, 3) := by decide +kernel
theorem dL_inkNow_4 : decode cL_inkNow 4 = .ok (.invokestatic 27, 3) := by decide +kernel
theorem dL_inkNow_7 : decode cL_inkNow 7 = .ok (.i2l, 1) := by decide +kernel
theorem dL_inkNow_8 : decode cL_inkNow 8 = .ok (.lreturn, 1) := by decide +kernel
theorem dL_stamp_0 : decode cL_stamp 0 = .ok (.aload_n 0, 1) := by decide +kernel
theorem dL_stamp_1 : decode cL_stamp 1 = .ok (.iload_n 1, 1) := by decide +kernel
theorem dL_stamp_2 : decode cL_stamp 2 = .ok (.iload_n 2, 1) := by decide +kernel
theorem dL_stamp_3 : decode cL_stamp 3 = .ok (.invokevirtual 93, 3) := by decide +kernel
theorem dL_stamp_6 : decode cL_stamp 6 = .ok (.i2l, 1) := by decide +kernel
theorem dL_stamp_7 : decode cL_stamp 7 = .ok (.lreturn, 1) := by decide +kernel
theorem dL_stamp_8 : decode cL_stamp 8 = .ok (.astore_n 3, 1) := by decide +kernel
theorem dL_stamp_9 : decode cL_stamp 9 = .ok (.ldc2_w 17, 3) := by decide +kernel
theorem dL_stamp_12 : decode cL_stamp 12 = .ok (.lreturn, 1) := by decide +kernel
theorem dL_stamp_13 : decode cL_stamp 13 = .ok (.astore_n 3, 1) := by decide +kernel
theorem dL_stamp_14 : decode cL_stamp 14 = .ok (.ldc2_w 21, 3) := by decide +kernel
theorem dL_stamp_17 : decode cL_stamp 17 = .ok (.lreturn, 1) := by decide +kernel
theorem dL_shelve_0 : decode cL_shelve 0 = .ok (.aload_n 0, 1) := by decide +kernel
theorem dL_shelve_1 : decode cL_shelve 1 = .ok (.iload_n 1, 1) := by decide +kernel
theorem dL_shelve_2 : decode cL_shelve 2 = .ok (.iload_n 2, 1) := by decide +kernel
theorem dL_shelve_3 : decode cL_shelve 3 = .ok (.invokevirtual 96, 3) := by decide +kernel
theorem dL_shelve_6 : decode cL_shelve 6 = .ok (.i2l, 1) := by decide +kernel
theorem dL_shelve_7 : decode cL_shelve 7 = .ok (.lreturn, 1) := by decide +kernel
theorem dL_shelve_8 : decode cL_shelve 8 = .ok (.astore_n 3, 1) := by decide +kernel
theorem dL_shelve_9 : decode cL_shelve 9 = .ok (.ldc2_w 17, 3) := by decide +kernel
theorem dL_shelve_12 : decode cL_shelve 12 = .ok (.lreturn, 1) := by decide +kernel
theorem dL_shelve_13 : decode cL_shelve 13 = .ok (.astore_n 3, 1) := by decide +kernel
theorem dL_shelve_14 : decode cL_shelve 14 = .ok (.ldc2_w 21, 3) := by decide +kernel
theorem dL_shelve_17 : decode cL_shelve 17 = .ok (.lreturn, 1) := by decide +kernel
theorem dL_take_0 : decode cL_take 0 = .ok (.aload_n 0, 1) := by decide +kernel
theorem dL_take_1 : decode cL_take 1 = .ok (.iload_n 1, 1) := by decide +kernel
theorem dL_take_2 : decode cL_take 2 = .ok (.invokevirtual 99, 3) := by decide +kernel
theorem dL_take_5 : decode cL_take 5 = .ok (.i2l, 1) := by decide +kernel
theorem dL_take_6 : decode cL_take 6 = .ok (.lreturn, 1) := by decide +kernel
theorem dL_take_7 : decode cL_take 7 = .ok (.astore_n 2, 1) := by decide +kernel
theorem dL_take_8 : decode cL_take 8 = .ok (.ldc2_w 17, 3) := by decide +kernel
theorem dL_take_11 : decode cL_take 11 = .ok (.lreturn, 1) := by decide +kernel
theorem dL_take_12 : decode cL_take 12 = .ok (.astore_n 2, 1) := by decide +kernel
theorem dL_take_13 : decode cL_take 13 = .ok (.ldc2_w 21, 3) := by decide +kernel
theorem dL_take_16 : decode cL_take 16 = .ok (.lreturn, 1) := by decide +kernel
theorem dL_inHole_0 : decode cL_inHole 0 = .ok (.aload_n 0, 1) := by decide +kernel
theorem dL_inHole_1 : decode cL_inHole 1 = .ok (.iload_n 1, 1) := by decide +kernel
theorem dL_inHole_2 : decode cL_inHole 2 = .ok (.iload_n 2, 1) := by decide +kernel
theorem dL_inHole_3 : decode cL_inHole 3 = .ok (.iload_n 3, 1) := by decide +kernel
theorem dL_inHole_4 : decode cL_inHole 4 = .ok (.invokevirtual 102, 3) := by decide +kernel
theorem dL_inHole_7 : decode cL_inHole 7 = .ok (.i2l, 1) := by decide +kernel
theorem dL_inHole_8 : decode cL_inHole 8 = .ok (.lreturn, 1) := by decide +kernel
theorem dL_inHole_9 : decode cL_inHole 9 = .ok (.astore 4, 2) := by decide +kernel
theorem dL_inHole_11 : decode cL_inHole 11 = .ok (.ldc2_w 17, 3) := by decide +kernel
theorem dL_inHole_14 : decode cL_inHole 14 = .ok (.lreturn, 1) := by decide +kernel
theorem dL_inHole_15 : decode cL_inHole 15 = .ok (.astore 4, 2) := by decide +kernel
theorem dL_inHole_17 : decode cL_inHole 17 = .ok (.ldc2_w 21, 3) := by decide +kernel
theorem dL_inHole_20 : decode cL_inHole 20 = .ok (.lreturn, 1) := by decide +kernel
theorem dL_read_0 : decode cL_read 0 = .ok (.aload_n 0, 1) := by decide +kernel
theorem dL_read_1 : decode cL_read 1 = .ok (.iload_n 1, 1) := by decide +kernel
theorem dL_read_2 : decode cL_read 2 = .ok (.invokevirtual 105, 3) := by decide +kernel
theorem dL_read_5 : decode cL_read 5 = .ok (.i2l, 1) := by decide +kernel
theorem dL_read_6 : decode cL_read 6 = .ok (.lreturn, 1) := by decide +kernel
theorem dL_read_7 : decode cL_read 7 = .ok (.astore_n 2, 1) := by decide +kernel
theorem dL_read_8 : decode cL_read 8 = .ok (.ldc2_w 17, 3) := by decide +kernel
theorem dL_read_11 : decode cL_read 11 = .ok (.lreturn, 1) := by decide +kernel
theorem dL_snacks_0 : decode cL_snacks 0 = .ok (.aload_n 0, 1) := by decide +kernel
theorem dL_snacks_1 : decode cL_snacks 1 = .ok (.iload_n 1, 1) := by decide +kernel
theorem dL_snacks_2 : decode cL_snacks 2 = .ok (.invokevirtual 108, 3) := by decide +kernel
theorem dL_snacks_5 : decode cL_snacks 5 = .ok (.i2l, 1) := by decide +kernel
theorem dL_snacks_6 : decode cL_snacks 6 = .ok (.lreturn, 1) := by decide +kernel
theorem dL_snacks_7 : decode cL_snacks 7 = .ok (.astore_n 2, 1) := by decide +kernel
theorem dL_snacks_8 : decode cL_snacks 8 = .ok (.ldc2_w 17, 3) := by decide +kernel
theorem dL_snacks_11 : decode cL_snacks 11 = .ok (.lreturn, 1) := by decide +kernel
theorem dL_feed_0 : decode cL_feed 0 = .ok (.aload_n 0, 1) := by decide +kernel
theorem dL_feed_1 : decode cL_feed 1 = .ok (.iload_n 1, 1) := by decide +kernel
theorem dL_feed_2 : decode cL_feed 2 = .ok (.invokevirtual 111, 3) := by decide +kernel
theorem dL_feed_5 : decode cL_feed 5 = .ok (.i2l, 1) := by decide +kernel
theorem dL_feed_6 : decode cL_feed 6 = .ok (.lreturn, 1) := by decide +kernel
theorem dL_feed_7 : decode cL_feed 7 = .ok (.astore_n 2, 1) := by decide +kernel
theorem dL_feed_8 : decode cL_feed 8 = .ok (.ldc2_w 17, 3) := by decide +kernel
theorem dL_feed_11 : decode cL_feed 11 = .ok (.lreturn, 1) := by decide +kernel
theorem dL_feed_12 : decode cL_feed 12 = .ok (.astore_n 2, 1) := by decide +kernel
theorem dL_feed_13 : decode cL_feed 13 = .ok (.ldc2_w 21, 3) := by decide +kernel
theorem dL_feed_16 : decode cL_feed 16 = .ok (.lreturn, 1) := by decide +kernel
theorem dL_hunger_0 : decode cL_hunger 0 = .ok (.aload_n 0, 1) := by decide +kernel
theorem dL_hunger_1 : decode cL_hunger 1 = .ok (.invokevirtual 114, 3) := by decide +kernel
theorem dL_hunger_4 : decode cL_hunger 4 = .ok (.invokestatic 27, 3) := by decide +kernel
theorem dL_hunger_7 : decode cL_hunger 7 = .ok (.i2l, 1) := by decide +kernel
theorem dL_hunger_8 : decode cL_hunger 8 = .ok (.lreturn, 1) := by decide +kernel
theorem dL_prey_0 : decode cL_prey 0 = .ok (.aload_n 0, 1) := by decide +kernel
theorem dL_prey_1 : decode cL_prey 1 = .ok (.invokevirtual 117, 3) := by decide +kernel
theorem dL_prey_4 : decode cL_prey 4 = .ok (.i2l, 1) := by decide +kernel
theorem dL_prey_5 : decode cL_prey 5 = .ok (.lreturn, 1) := by decide +kernel
theorem dL_prey_6 : decode cL_prey 6 = .ok (.astore_n 1, 1) := by decide +kernel
theorem dL_prey_7 : decode cL_prey 7 = .ok (.ldc2_w 17, 3) := by decide +kernel
theorem dL_prey_10 : decode cL_prey 10 = .ok (.lreturn, 1) := by decide +kernel
theorem dL_eatsIn_0 : decode cL_eatsIn 0 = .ok (.aload_n 0, 1) := by decide +kernel
theorem dL_eatsIn_1 : decode cL_eatsIn 1 = .ok (.invokevirtual 120, 3) := by decide +kernel
theorem dL_eatsIn_4 : decode cL_eatsIn 4 = .ok (.i2l, 1) := by decide +kernel
theorem dL_eatsIn_5 : decode cL_eatsIn 5 = .ok (.lreturn, 1) := by decide +kernel
theorem dL_eatsIn_6 : decode cL_eatsIn 6 = .ok (.astore_n 1, 1) := by decide +kernel
theorem dL_eatsIn_7 : decode cL_eatsIn 7 = .ok (.ldc2_w 17, 3) := by decide +kernel
theorem dL_eatsIn_10 : decode cL_eatsIn 10 = .ok (.lreturn, 1) := by decide +kernel
theorem dL_pass_0 : decode cL_pass 0 = .ok (.aload_n 0, 1) := by decide +kernel
theorem dL_pass_1 : decode cL_pass 1 = .ok (.iload_n 1, 1) := by decide +kernel
theorem dL_pass_2 : decode cL_pass 2 = .ok (.invokevirtual 123, 3) := by decide +kernel
theorem dL_pass_5 : decode cL_pass 5 = .ok (.i2l, 1) := by decide +kernel
theorem dL_pass_6 : decode cL_pass 6 = .ok (.lreturn, 1) := by decide +kernel
theorem dL_pass_7 : decode cL_pass 7 = .ok (.astore_n 2, 1) := by decide +kernel
theorem dL_pass_8 : decode cL_pass 8 = .ok (.ldc2_w 17, 3) := by decide +kernel
theorem dL_pass_11 : decode cL_pass 11 = .ok (.lreturn, 1) := by decide +kernel
theorem dL_run_0 : decode cL_run 0 = .ok (.aload_n 0, 1) := by decide +kernel
theorem dL_run_1 : decode cL_run 1 = .ok (.invokevirtual 136, 3) := by decide +kernel
theorem dL_run_4 : decode cL_run 4 = .ok (.i2l, 1) := by decide +kernel
theorem dL_run_5 : decode cL_run 5 = .ok (.lreturn, 1) := by decide +kernel
theorem dL_run_6 : decode cL_run 6 = .ok (.astore_n 1, 1) := by decide +kernel
theorem dL_run_7 : decode cL_run 7 = .ok (.ldc2_w 17, 3) := by decide +kernel
theorem dL_run_10 : decode cL_run 10 = .ok (.lreturn, 1) := by decide +kernel
theorem dL_run_11 : decode cL_run 11 = .ok (.astore_n 1, 1) := by decide +kernel
theorem dL_run_12 : decode cL_run 12 = .ok (.ldc2_w 21, 3) := by decide +kernel
theorem dL_run_15 : decode cL_run 15 = .ok (.lreturn, 1) := by decide +kernel
theorem dL_account_0 : decode cL_account 0 = .ok (.aload_n 0, 1) := by decide +kernel
theorem dL_account_1 : decode cL_account 1 = .ok (.iload_n 1, 1) := by decide +kernel
theorem dL_account_2 : decode cL_account 2 = .ok (.invokevirtual 146, 3) := by decide +kernel
theorem dL_account_5 : decode cL_account 5 = .ok (.i2l, 1) := by decide +kernel
theorem dL_account_6 : decode cL_account 6 = .ok (.lreturn, 1) := by decide +kernel
theorem dL_account_7 : decode cL_account 7 = .ok (.astore_n 2, 1) := by decide +kernel
theorem dL_account_8 : decode cL_account 8 = .ok (.ldc2_w 17, 3) := by decide +kernel
theorem dL_account_11 : decode cL_account 11 = .ok (.lreturn, 1) := by decide +kernel
theorem dL_isWell_0 : decode cL_isWell 0 = .ok (.aload_n 0, 1) := by decide +kernel
theorem dL_isWell_1 : decode cL_isWell 1 = .ok (.invokevirtual 149, 3) := by decide +kernel
theorem dL_isWell_4 : decode cL_isWell 4 = .ok (.ifCond .eq 7, 3) := by decide +kernel
theorem dL_isWell_7 : decode cL_isWell 7 = .ok (.lconst 1, 1) := by decide +kernel
theorem dL_isWell_8 : decode cL_isWell 8 = .ok (.goto 4, 3) := by decide +kernel
theorem dL_isWell_11 : decode cL_isWell 11 = .ok (.lconst 0, 1) := by decide +kernel
theorem dL_isWell_12 : decode cL_isWell 12 = .ok (.lreturn, 1) := by decide +kernel
theorem dL_undo_0 : decode cL_undo 0 = .ok (.aload_n 0, 1) := by decide +kernel
theorem dL_undo_1 : decode cL_undo 1 = .ok (.invokevirtual 159, 3) := by decide +kernel
theorem dL_undo_4 : decode cL_undo 4 = .ok (.i2l, 1) := by decide +kernel
theorem dL_undo_5 : decode cL_undo 5 = .ok (.lreturn, 1) := by decide +kernel
theorem dL_undo_6 : decode cL_undo 6 = .ok (.astore_n 1, 1) := by decide +kernel
theorem dL_undo_7 : decode cL_undo 7 = .ok (.ldc2_w 17, 3) := by decide +kernel
theorem dL_undo_10 : decode cL_undo 10 = .ok (.lreturn, 1) := by decide +kernel
theorem dL_save_0 : decode cL_save 0 = .ok (.aload_n 0, 1) := by decide +kernel
theorem dL_save_1 : decode cL_save 1 = .ok (.invokevirtual 162, 3) := by decide +kernel
theorem dL_save_4 : decode cL_save 4 = .ok (.i2l, 1) := by decide +kernel
theorem dL_save_5 : decode cL_save 5 = .ok (.lreturn, 1) := by decide +kernel
theorem dL_restore_0 : decode cL_restore 0 = .ok (.aload_n 0, 1) := by decide +kernel
theorem dL_restore_1 : decode cL_restore 1 = .ok (.invokevirtual 165, 3) := by decide +kernel
theorem dL_restore_4 : decode cL_restore 4 = .ok (.i2l, 1) := by decide +kernel
theorem dL_restore_5 : decode cL_restore 5 = .ok (.lreturn, 1) := by decide +kernel
theorem dL_restore_6 : decode cL_restore 6 = .ok (.astore_n 1, 1) := by decide +kernel
theorem dL_restore_7 : decode cL_restore 7 = .ok (.ldc2_w 17, 3) := by decide +kernel
theorem dL_restore_10 : decode cL_restore 10 = .ok (.lreturn, 1) := by decide +kernel
theorem dL_cell_0 : decode cL_cell 0 = .ok (.iload_n 1, 1) := by decide +kernel
theorem dL_cell_1 : decode cL_cell 1 = .ok (.aload_n 0, 1) := by decide +kernel
theorem dL_cell_2 : decode cL_cell 2 = .ok (.arraylength, 1) := by decide +kernel
theorem dL_cell_3 : decode cL_cell 3 = .ok (.if_icmp .ge 9, 3) := by decide +kernel
theorem dL_cell_6 : decode cL_cell 6 = .ok (.aload_n 0, 1) := by decide +kernel
theorem dL_cell_7 : decode cL_cell 7 = .ok (.iload_n 1, 1) := by decide +kernel
theorem dL_cell_8 : decode cL_cell 8 = .ok (.iaload, 1) := by decide +kernel
theorem dL_cell_9 : decode cL_cell 9 = .ok (.goto 11, 3) := by decide +kernel
theorem dL_cell_12 : decode cL_cell 12 = .ok (.sipush 7919, 3) := by decide +kernel
theorem dL_cell_15 : decode cL_cell 15 = .ok (.iload_n 1, 1) := by decide +kernel
theorem dL_cell_16 : decode cL_cell 16 = .ok (.imul, 1) := by decide +kernel
theorem dL_cell_17 : decode cL_cell 17 = .ok (.bipush 12, 2) := by decide +kernel
theorem dL_cell_19 : decode cL_cell 19 = .ok (.iadd, 1) := by decide +kernel
theorem dL_cell_20 : decode cL_cell 20 = .ok (.ireturn, 1) := by decide +kernel
theorem dL_pick_0 : decode cL_pick 0 = .ok (.iload_n 0, 1) := by decide +kernel
theorem dL_pick_1 : decode cL_pick 1 = .ok (.ldc 168, 2) := by decide +kernel
theorem dL_pick_3 : decode cL_pick 3 = .ok (.iand, 1) := by decide +kernel
theorem dL_pick_4 : decode cL_pick 4 = .ok (.iload_n 1, 1) := by decide +kernel
theorem dL_pick_5 : decode cL_pick 5 = .ok (.irem, 1) := by decide +kernel
theorem dL_pick_6 : decode cL_pick 6 = .ok (.ireturn, 1) := by decide +kernel
theorem dL_text_0 : decode cL_text 0 = .ok (.iconst 0, 1) := by decide +kernel
theorem dL_text_1 : decode cL_text 1 = .ok (.istore_n 2, 1) := by decide +kernel
theorem dL_text_2 : decode cL_text 2 = .ok (.iload_n 2, 1) := by decide +kernel
theorem dL_text_3 : decode cL_text 3 = .ok (.aload_n 1, 1) := by decide +kernel
theorem dL_text_4 : decode cL_text 4 = .ok (.invokevirtual 169, 3) := by decide +kernel
theorem dL_text_7 : decode cL_text 7 = .ok (.if_icmp .ge 19, 3) := by decide +kernel
theorem dL_text_10 : decode cL_text 10 = .ok (.aload_n 0, 1) := by decide +kernel
theorem dL_text_11 : decode cL_text 11 = .ok (.aload_n 1, 1) := by decide +kernel
theorem dL_text_12 : decode cL_text 12 = .ok (.iload_n 2, 1) := by decide +kernel
theorem dL_text_13 : decode cL_text 13 = .ok (.invokevirtual 174, 3) := by decide +kernel
theorem dL_text_16 : decode cL_text 16 = .ok (.invokevirtual 130, 3) := by decide +kernel
theorem dL_text_19 : decode cL_text 19 = .ok (.pop, 1) := by decide +kernel
theorem dL_text_20 : decode cL_text 20 = .ok (.iinc 2 1, 3) := by decide +kernel
theorem dL_text_23 : decode cL_text 23 = .ok (.goto (-21), 3) := by decide +kernel
theorem dL_text_26 : decode cL_text 26 = .ok (.aload_n 0, 1) := by decide +kernel
theorem dL_text_27 : decode cL_text 27 = .ok (.invokestatic 177, 3) := by decide +kernel
theorem dL_text_30 : decode cL_text 30 = .ok (.lreturn, 1) := by decide +kernel
theorem dL_mark_0 : decode cL_mark 0 = .ok (.ldc2_w 180, 3) := by decide +kernel
theorem dL_mark_3 : decode cL_mark 3 = .ok (.lstore_n 1, 1) := by decide +kernel
theorem dL_mark_4 : decode cL_mark 4 = .ok (.iconst 0, 1) := by decide +kernel
theorem dL_mark_5 : decode cL_mark 5 = .ok (.istore_n 3, 1) := by decide +kernel
theorem dL_mark_6 : decode cL_mark 6 = .ok (.iload_n 3, 1) := by decide +kernel
theorem dL_mark_7 : decode cL_mark 7 = .ok (.bipush 13, 2) := by decide +kernel
theorem dL_mark_9 : decode cL_mark 9 = .ok (.if_icmp .ge 21, 3) := by decide +kernel
theorem dL_mark_12 : decode cL_mark 12 = .ok (.ldc2_w 182, 3) := by decide +kernel
theorem dL_mark_15 : decode cL_mark 15 = .ok (.lload_n 1, 1) := by decide +kernel
theorem dL_mark_16 : decode cL_mark 16 = .ok (.lmul, 1) := by decide +kernel
theorem dL_mark_17 : decode cL_mark 17 = .ok (.aload_n 0, 1) := by decide +kernel
theorem dL_mark_18 : decode cL_mark 18 = .ok (.iload_n 3, 1) := by decide +kernel
theorem dL_mark_19 : decode cL_mark 19 = .ok (.invokestatic 184, 3) := by decide +kernel
theorem dL_mark_22 : decode cL_mark 22 = .ok (.ladd, 1) := by decide +kernel
theorem dL_mark_23 : decode cL_mark 23 = .ok (.lstore_n 1, 1) := by decide +kernel
theorem dL_mark_24 : decode cL_mark 24 = .ok (.iinc 3 1, 3) := by decide +kernel
theorem dL_mark_27 : decode cL_mark 27 = .ok (.goto (-21), 3) := by decide +kernel
theorem dL_mark_30 : decode cL_mark 30 = .ok (.iconst 0, 1) := by decide +kernel
theorem dL_mark_31 : decode cL_mark 31 = .ok (.istore_n 3, 1) := by decide +kernel
theorem dL_mark_32 : decode cL_mark 32 = .ok (.iload_n 3, 1) := by decide +kernel
theorem dL_mark_33 : decode cL_mark 33 = .ok (.i2l, 1) := by decide +kernel
theorem dL_mark_34 : decode cL_mark 34 = .ok (.aload_n 0, 1) := by decide +kernel
theorem dL_mark_35 : decode cL_mark 35 = .ok (.iconst 2, 1) := by decide +kernel
theorem dL_mark_36 : decode cL_mark 36 = .ok (.invokestatic 184, 3) := by decide +kernel
theorem dL_mark_39 : decode cL_mark 39 = .ok (.lcmp, 1) := by decide +kernel
theorem dL_mark_40 : decode cL_mark 40 = .ok (.ifCond .ge 51, 3) := by decide +kernel
theorem dL_mark_43 : decode cL_mark 43 = .ok (.iconst 0, 1) := by decide +kernel
theorem dL_mark_44 : decode cL_mark 44 = .ok (.istore 4, 2) := by decide +kernel
theorem dL_mark_46 : decode cL_mark 46 = .ok (.iload 4, 2) := by decide +kernel
theorem dL_mark_48 : decode cL_mark 48 = .ok (.bipush 7, 2) := by decide +kernel
theorem dL_mark_50 : decode cL_mark 50 = .ok (.if_icmp .ge 23, 3) := by decide +kernel
theorem dL_mark_53 : decode cL_mark 53 = .ok (.ldc2_w 182, 3) := by decide +kernel
theorem dL_mark_56 : decode cL_mark 56 = .ok (.lload_n 1, 1) := by decide +kernel
theorem dL_mark_57 : decode cL_mark 57 = .ok (.lmul, 1) := by decide +kernel
theorem dL_mark_58 : decode cL_mark 58 = .ok (.aload_n 0, 1) := by decide +kernel
theorem dL_mark_59 : decode cL_mark 59 = .ok (.iload_n 3, 1) := by decide +kernel
theorem dL_mark_60 : decode cL_mark 60 = .ok (.iload 4, 2) := by decide +kernel
theorem dL_mark_62 : decode cL_mark 62 = .ok (.invokestatic 187, 3) := by decide +kernel
theorem dL_mark_65 : decode cL_mark 65 = .ok (.ladd, 1) := by decide +kernel
theorem dL_mark_66 : decode cL_mark 66 = .ok (.lstore_n 1, 1) := by decide +kernel
theorem dL_mark_67 : decode cL_mark 67 = .ok (.iinc 4 1, 3) := by decide +kernel
theorem dL_mark_70 : decode cL_mark 70 = .ok (.goto (-24), 3) := by decide +kernel
theorem dL_mark_73 : decode cL_mark 73 = .ok (.ldc2_w 182, 3) := by decide +kernel
theorem dL_mark_76 : decode cL_mark 76 = .ok (.lload_n 1, 1) := by decide +kernel
theorem dL_mark_77 : decode cL_mark 77 = .ok (.lmul, 1) := by decide +kernel
theorem dL_mark_78 : decode cL_mark 78 = .ok (.aload_n 0, 1) := by decide +kernel
theorem dL_mark_79 : decode cL_mark 79 = .ok (.iload_n 3, 1) := by decide +kernel
theorem dL_mark_80 : decode cL_mark 80 = .ok (.invokestatic 190, 3) := by decide +kernel
theorem dL_mark_83 : decode cL_mark 83 = .ok (.ladd, 1) := by decide +kernel
theorem dL_mark_84 : decode cL_mark 84 = .ok (.lstore_n 1, 1) := by decide +kernel
theorem dL_mark_85 : decode cL_mark 85 = .ok (.iinc 3 1, 3) := by decide +kernel
theorem dL_mark_88 : decode cL_mark 88 = .ok (.goto (-56), 3) := by decide +kernel
theorem dL_mark_91 : decode cL_mark 91 = .ok (.iconst 0, 1) := by decide +kernel
theorem dL_mark_92 : decode cL_mark 92 = .ok (.istore_n 3, 1) := by decide +kernel
theorem dL_mark_93 : decode cL_mark 93 = .ok (.iload_n 3, 1) := by decide +kernel
theorem dL_mark_94 : decode cL_mark 94 = .ok (.i2l, 1) := by decide +kernel
theorem dL_mark_95 : decode cL_mark 95 = .ok (.aload_n 0, 1) := by decide +kernel
theorem dL_mark_96 : decode cL_mark 96 = .ok (.iconst 1, 1) := by decide +kernel
theorem dL_mark_97 : decode cL_mark 97 = .ok (.invokestatic 184, 3) := by decide +kernel
theorem dL_mark_100 : decode cL_mark 100 = .ok (.lcmp, 1) := by decide +kernel
theorem dL_mark_101 : decode cL_mark 101 = .ok (.ifCond .ge 21, 3) := by decide +kernel
theorem dL_mark_104 : decode cL_mark 104 = .ok (.ldc2_w 182, 3) := by decide +kernel
theorem dL_mark_107 : decode cL_mark 107 = .ok (.lload_n 1, 1) := by decide +kernel
theorem dL_mark_108 : decode cL_mark 108 = .ok (.lmul, 1) := by decide +kernel
theorem dL_mark_109 : decode cL_mark 109 = .ok (.aload_n 0, 1) := by decide +kernel
theorem dL_mark_110 : decode cL_mark 110 = .ok (.iload_n 3, 1) := by decide +kernel
theorem dL_mark_111 : decode cL_mark 111 = .ok (.invokestatic 192, 3) := by decide +kernel
theorem dL_mark_114 : decode cL_mark 114 = .ok (.ladd, 1) := by decide +kernel
theorem dL_mark_115 : decode cL_mark 115 = .ok (.lstore_n 1, 1) := by decide +kernel
theorem dL_mark_116 : decode cL_mark 116 = .ok (.iinc 3 1, 3) := by decide +kernel
theorem dL_mark_119 : decode cL_mark 119 = .ok (.goto (-26), 3) := by decide +kernel
theorem dL_mark_122 : decode cL_mark 122 = .ok (.iconst 0, 1) := by decide +kernel
theorem dL_mark_123 : decode cL_mark 123 = .ok (.istore_n 3, 1) := by decide +kernel
theorem dL_mark_124 : decode cL_mark 124 = .ok (.iload_n 3, 1) := by decide +kernel
theorem dL_mark_125 : decode cL_mark 125 = .ok (.i2l, 1) := by decide +kernel
theorem dL_mark_126 : decode cL_mark 126 = .ok (.aload_n 0, 1) := by decide +kernel
theorem dL_mark_127 : decode cL_mark 127 = .ok (.iconst 4, 1) := by decide +kernel
theorem dL_mark_128 : decode cL_mark 128 = .ok (.invokestatic 184, 3) := by decide +kernel
theorem dL_mark_131 : decode cL_mark 131 = .ok (.lcmp, 1) := by decide +kernel
theorem dL_mark_132 : decode cL_mark 132 = .ok (.ifCond .ge 21, 3) := by decide +kernel
theorem dL_mark_135 : decode cL_mark 135 = .ok (.ldc2_w 182, 3) := by decide +kernel
theorem dL_mark_138 : decode cL_mark 138 = .ok (.lload_n 1, 1) := by decide +kernel
theorem dL_mark_139 : decode cL_mark 139 = .ok (.lmul, 1) := by decide +kernel
theorem dL_mark_140 : decode cL_mark 140 = .ok (.aload_n 0, 1) := by decide +kernel
theorem dL_mark_141 : decode cL_mark 141 = .ok (.iload_n 3, 1) := by decide +kernel
theorem dL_mark_142 : decode cL_mark 142 = .ok (.invokestatic 194, 3) := by decide +kernel
theorem dL_mark_145 : decode cL_mark 145 = .ok (.ladd, 1) := by decide +kernel
theorem dL_mark_146 : decode cL_mark 146 = .ok (.lstore_n 1, 1) := by decide +kernel
theorem dL_mark_147 : decode cL_mark 147 = .ok (.iinc 3 1, 3) := by decide +kernel
theorem dL_mark_150 : decode cL_mark 150 = .ok (.goto (-26), 3) := by decide +kernel
theorem dL_mark_153 : decode cL_mark 153 = .ok (.iconst 0, 1) := by decide +kernel
theorem dL_mark_154 : decode cL_mark 154 = .ok (.istore_n 3, 1) := by decide +kernel
theorem dL_mark_155 : decode cL_mark 155 = .ok (.iload_n 3, 1) := by decide +kernel
theorem dL_mark_156 : decode cL_mark 156 = .ok (.bipush 6, 2) := by decide +kernel
theorem dL_mark_158 : decode cL_mark 158 = .ok (.if_icmp .ge 21, 3) := by decide +kernel
theorem dL_mark_161 : decode cL_mark 161 = .ok (.ldc2_w 182, 3) := by decide +kernel
theorem dL_mark_164 : decode cL_mark 164 = .ok (.lload_n 1, 1) := by decide +kernel
theorem dL_mark_165 : decode cL_mark 165 = .ok (.lmul, 1) := by decide +kernel
theorem dL_mark_166 : decode cL_mark 166 = .ok (.aload_n 0, 1) := by decide +kernel
theorem dL_mark_167 : decode cL_mark 167 = .ok (.iload_n 3, 1) := by decide +kernel
theorem dL_mark_168 : decode cL_mark 168 = .ok (.invokestatic 196, 3) := by decide +kernel
theorem dL_mark_171 : decode cL_mark 171 = .ok (.ladd, 1) := by decide +kernel
theorem dL_mark_172 : decode cL_mark 172 = .ok (.lstore_n 1, 1) := by decide +kernel
theorem dL_mark_173 : decode cL_mark 173 = .ok (.iinc 3 1, 3) := by decide +kernel
theorem dL_mark_176 : decode cL_mark 176 = .ok (.goto (-21), 3) := by decide +kernel
theorem dL_mark_179 : decode cL_mark 179 = .ok (.ldc2_w 182, 3) := by decide +kernel
theorem dL_mark_182 : decode cL_mark 182 = .ok (.ldc2_w 182, 3) := by decide +kernel
theorem dL_mark_185 : decode cL_mark 185 = .ok (.lload_n 1, 1) := by decide +kernel
theorem dL_mark_186 : decode cL_mark 186 = .ok (.lmul, 1) := by decide +kernel
theorem dL_mark_187 : decode cL_mark 187 = .ok (.aload_n 0, 1) := by decide +kernel
theorem dL_mark_188 : decode cL_mark 188 = .ok (.invokestatic 198, 3) := by decide +kernel
theorem dL_mark_191 : decode cL_mark 191 = .ok (.ladd, 1) := by decide +kernel
theorem dL_mark_192 : decode cL_mark 192 = .ok (.lmul, 1) := by decide +kernel
theorem dL_mark_193 : decode cL_mark 193 = .ok (.aload_n 0, 1) := by decide +kernel
theorem dL_mark_194 : decode cL_mark 194 = .ok (.invokestatic 200, 3) := by decide +kernel
theorem dL_mark_197 : decode cL_mark 197 = .ok (.ladd, 1) := by decide +kernel
theorem dL_mark_198 : decode cL_mark 198 = .ok (.lreturn, 1) := by decide +kernel
theorem dL_acts_0 : decode cL_acts 0 = .ok (.iload_n 1, 1) := by decide +kernel
theorem dL_acts_1 : decode cL_acts 1 = .ok (.bipush 8, 2) := by decide +kernel
theorem dL_acts_3 : decode cL_acts 3 = .ok (.ishr, 1) := by decide +kernel
theorem dL_acts_4 : decode cL_acts 4 = .ok (.sipush 4000, 3) := by decide +kernel
theorem dL_acts_7 : decode cL_acts 7 = .ok (.invokestatic 202, 3) := by decide +kernel
theorem dL_acts_10 : decode cL_acts 10 = .ok (.istore_n 2, 1) := by decide +kernel
theorem dL_acts_11 : decode cL_acts 11 = .ok (.iload_n 1, 1) := by decide +kernel
theorem dL_acts_12 : decode cL_acts 12 = .ok (.bipush 24, 2) := by decide +kernel
theorem dL_acts_14 : decode cL_acts 14 = .ok (.invokestatic 202, 3) := by decide +kernel
theorem dL_acts_17 : decode cL_acts 17 = .ok (.tableswitch 285 0 17 #[87, 99, 99, 99, 127, 168, 198, 203, 203, 203, 218, 218, 218, 233, 242, 272, 272, 272], 87) := by decide +kernel
theorem dL_acts_104 : decode cL_acts 104 = .ok (.aload_n 0, 1) := by decide +kernel
theorem dL_acts_105 : decode cL_acts 105 = .ok (.bipush 10, 2) := by decide +kernel
theorem dL_acts_107 : decode cL_acts 107 = .ok (.iload_n 2, 1) := by decide +kernel
theorem dL_acts_108 : decode cL_acts 108 = .ok (.bipush 111, 2) := by decide +kernel
theorem dL_acts_110 : decode cL_acts 110 = .ok (.irem, 1) := by decide +kernel
theorem dL_acts_111 : decode cL_acts 111 = .ok (.iadd, 1) := by decide +kernel
theorem dL_acts_112 : decode cL_acts 112 = .ok (.invokestatic 205, 3) := by decide +kernel
theorem dL_acts_115 : decode cL_acts 115 = .ok (.lreturn, 1) := by decide +kernel
theorem dL_acts_116 : decode cL_acts 116 = .ok (.aload_n 0, 1) := by decide +kernel
theorem dL_acts_117 : decode cL_acts 117 = .ok (.iload_n 2, 1) := by decide +kernel
theorem dL_acts_118 : decode cL_acts 118 = .ok (.bipush 6, 2) := by decide +kernel
theorem dL_acts_120 : decode cL_acts 120 = .ok (.irem, 1) := by decide +kernel
theorem dL_acts_121 : decode cL_acts 121 = .ok (.iload_n 2, 1) := by decide +kernel
theorem dL_acts_122 : decode cL_acts 122 = .ok (.bipush 6, 2) := by decide +kernel
theorem dL_acts_124 : decode cL_acts 124 = .ok (.idiv, 1) := by decide +kernel
theorem dL_acts_125 : decode cL_acts 125 = .ok (.bipush 6, 2) := by decide +kernel
theorem dL_acts_127 : decode cL_acts 127 = .ok (.irem, 1) := by decide +kernel
theorem dL_acts_128 : decode cL_acts 128 = .ok (.iconst 1, 1) := by decide +kernel
theorem dL_acts_129 : decode cL_acts 129 = .ok (.iload_n 2, 1) := by decide +kernel
theorem dL_acts_130 : decode cL_acts 130 = .ok (.bipush 36, 2) := by decide +kernel
theorem dL_acts_132 : decode cL_acts 132 = .ok (.idiv, 1) := by decide +kernel
theorem dL_acts_133 : decode cL_acts 133 = .ok (.bipush 40, 2) := by decide +kernel
theorem dL_acts_135 : decode cL_acts 135 = .ok (.irem, 1) := by decide +kernel
theorem dL_acts_136 : decode cL_acts 136 = .ok (.iadd, 1) := by decide +kernel
theorem dL_acts_137 : decode cL_acts 137 = .ok (.iload_n 2, 1) := by decide +kernel
theorem dL_acts_138 : decode cL_acts 138 = .ok (.iconst 2, 1) := by decide +kernel
theorem dL_acts_139 : decode cL_acts 139 = .ok (.irem, 1) := by decide +kernel
theorem dL_acts_140 : decode cL_acts 140 = .ok (.invokestatic 207, 3) := by decide +kernel
theorem dL_acts_143 : decode cL_acts 143 = .ok (.lreturn, 1) := by decide +kernel
theorem dL_acts_144 : decode cL_acts 144 = .ok (.aload_n 0, 1) := by decide +kernel
theorem dL_acts_145 : decode cL_acts 145 = .ok (.iload_n 2, 1) := by decide +kernel
theorem dL_acts_146 : decode cL_acts 146 = .ok (.bipush 6, 2) := by decide +kernel
theorem dL_acts_148 : decode cL_acts 148 = .ok (.irem, 1) := by decide +kernel
theorem dL_acts_149 : decode cL_acts 149 = .ok (.iload_n 2, 1) := by decide +kernel
theorem dL_acts_150 : decode cL_acts 150 = .ok (.bipush 6, 2) := by decide +kernel
theorem dL_acts_152 : decode cL_acts 152 = .ok (.idiv, 1) := by decide +kernel
theorem dL_acts_153 : decode cL_acts 153 = .ok (.bipush 6, 2) := by decide +kernel
theorem dL_acts_155 : decode cL_acts 155 = .ok (.irem, 1) := by decide +kernel
theorem dL_acts_156 : decode cL_acts 156 = .ok (.iconst 1, 1) := by decide +kernel
theorem dL_acts_157 : decode cL_acts 157 = .ok (.iload_n 2, 1) := by decide +kernel
theorem dL_acts_158 : decode cL_acts 158 = .ok (.bipush 36, 2) := by decide +kernel
theorem dL_acts_160 : decode cL_acts 160 = .ok (.idiv, 1) := by decide +kernel
theorem dL_acts_161 : decode cL_acts 161 = .ok (.bipush 9, 2) := by decide +kernel
theorem dL_acts_163 : decode cL_acts 163 = .ok (.irem, 1) := by decide +kernel
theorem dL_acts_164 : decode cL_acts 164 = .ok (.iadd, 1) := by decide +kernel
theorem dL_acts_165 : decode cL_acts 165 = .ok (.iconst 1, 1) := by decide +kernel
theorem dL_acts_166 : decode cL_acts 166 = .ok (.iload_n 2, 1) := by decide +kernel
theorem dL_acts_167 : decode cL_acts 167 = .ok (.sipush 324, 3) := by decide +kernel
theorem dL_acts_170 : decode cL_acts 170 = .ok (.idiv, 1) := by decide +kernel
theorem dL_acts_171 : decode cL_acts 171 = .ok (.bipush 9, 2) := by decide +kernel
theorem dL_acts_173 : decode cL_acts 173 = .ok (.irem, 1) := by decide +kernel
theorem dL_acts_174 : decode cL_acts 174 = .ok (.iadd, 1) := by decide +kernel
theorem dL_acts_175 : decode cL_acts 175 = .ok (.iconst 1, 1) := by decide +kernel
theorem dL_acts_176 : decode cL_acts 176 = .ok (.iload_n 2, 1) := by decide +kernel
theorem dL_acts_177 : decode cL_acts 177 = .ok (.bipush 9, 2) := by decide +kernel
theorem dL_acts_179 : decode cL_acts 179 = .ok (.irem, 1) := by decide +kernel
theorem dL_acts_180 : decode cL_acts 180 = .ok (.iadd, 1) := by decide +kernel
theorem dL_acts_181 : decode cL_acts 181 = .ok (.invokestatic 210, 3) := by decide +kernel
theorem dL_acts_184 : decode cL_acts 184 = .ok (.lreturn, 1) := by decide +kernel
theorem dL_acts_185 : decode cL_acts 185 = .ok (.iload_n 2, 1) := by decide +kernel
theorem dL_acts_186 : decode cL_acts 186 = .ok (.iconst 2, 1) := by decide +kernel
theorem dL_acts_187 : decode cL_acts 187 = .ok (.irem, 1) := by decide +kernel
theorem dL_acts_188 : decode cL_acts 188 = .ok (.ifCond .ne 16, 3) := by decide +kernel
theorem dL_acts_191 : decode cL_acts 191 = .ok (.aload_n 0, 1) := by decide +kernel
theorem dL_acts_192 : decode cL_acts 192 = .ok (.iconst 1, 1) := by decide +kernel
theorem dL_acts_193 : decode cL_acts 193 = .ok (.iload_n 2, 1) := by decide +kernel
theorem dL_acts_194 : decode cL_acts 194 = .ok (.bipush 20, 2) := by decide +kernel
theorem dL_acts_196 : decode cL_acts 196 = .ok (.irem, 1) := by decide +kernel
theorem dL_acts_197 : decode cL_acts 197 = .ok (.iadd, 1) := by decide +kernel
theorem dL_acts_198 : decode cL_acts 198 = .ok (.invokestatic 213, 3) := by decide +kernel
theorem dL_acts_201 : decode cL_acts 201 = .ok (.goto 13, 3) := by decide +kernel
theorem dL_acts_204 : decode cL_acts 204 = .ok (.aload_n 0, 1) := by decide +kernel
theorem dL_acts_205 : decode cL_acts 205 = .ok (.iconst 1, 1) := by decide +kernel
theorem dL_acts_206 : decode cL_acts 206 = .ok (.iload_n 2, 1) := by decide +kernel
theorem dL_acts_207 : decode cL_acts 207 = .ok (.bipush 50, 2) := by decide +kernel
theorem dL_acts_209 : decode cL_acts 209 = .ok (.irem, 1) := by decide +kernel
theorem dL_acts_210 : decode cL_acts 210 = .ok (.iadd, 1) := by decide +kernel
theorem dL_acts_211 : decode cL_acts 211 = .ok (.invokestatic 215, 3) := by decide +kernel
theorem dL_acts_214 : decode cL_acts 214 = .ok (.lreturn, 1) := by decide +kernel
theorem dL_acts_215 : decode cL_acts 215 = .ok (.aload_n 0, 1) := by decide +kernel
theorem dL_acts_216 : decode cL_acts 216 = .ok (.invokestatic 217, 3) := by decide +kernel
theorem dL_acts_219 : decode cL_acts 219 = .ok (.lreturn, 1) := by decide +kernel
theorem dL_acts_220 : decode cL_acts 220 = .ok (.aload_n 0, 1) := by decide +kernel
theorem dL_acts_221 : decode cL_acts 221 = .ok (.iload_n 2, 1) := by decide +kernel
theorem dL_acts_222 : decode cL_acts 222 = .ok (.bipush 8, 2) := by decide +kernel
theorem dL_acts_224 : decode cL_acts 224 = .ok (.irem, 1) := by decide +kernel
theorem dL_acts_225 : decode cL_acts 225 = .ok (.iload_n 2, 1) := by decide +kernel
theorem dL_acts_226 : decode cL_acts 226 = .ok (.bipush 8, 2) := by decide +kernel
theorem dL_acts_228 : decode cL_acts 228 = .ok (.idiv, 1) := by decide +kernel
theorem dL_acts_229 : decode cL_acts 229 = .ok (.iconst 2, 1) := by decide +kernel
theorem dL_acts_230 : decode cL_acts 230 = .ok (.irem, 1) := by decide +kernel
theorem dL_acts_231 : decode cL_acts 231 = .ok (.invokestatic 219, 3) := by decide +kernel
theorem dL_acts_234 : decode cL_acts 234 = .ok (.lreturn, 1) := by decide +kernel
theorem dL_acts_235 : decode cL_acts 235 = .ok (.aload_n 0, 1) := by decide +kernel
theorem dL_acts_236 : decode cL_acts 236 = .ok (.iload_n 2, 1) := by decide +kernel
theorem dL_acts_237 : decode cL_acts 237 = .ok (.bipush 8, 2) := by decide +kernel
theorem dL_acts_239 : decode cL_acts 239 = .ok (.irem, 1) := by decide +kernel
theorem dL_acts_240 : decode cL_acts 240 = .ok (.iload_n 2, 1) := by decide +kernel
theorem dL_acts_241 : decode cL_acts 241 = .ok (.bipush 8, 2) := by decide +kernel
theorem dL_acts_243 : decode cL_acts 243 = .ok (.idiv, 1) := by decide +kernel
theorem dL_acts_244 : decode cL_acts 244 = .ok (.iconst 2, 1) := by decide +kernel
theorem dL_acts_245 : decode cL_acts 245 = .ok (.irem, 1) := by decide +kernel
theorem dL_acts_246 : decode cL_acts 246 = .ok (.invokestatic 221, 3) := by decide +kernel
theorem dL_acts_249 : decode cL_acts 249 = .ok (.lreturn, 1) := by decide +kernel
theorem dL_acts_250 : decode cL_acts 250 = .ok (.aload_n 0, 1) := by decide +kernel
theorem dL_acts_251 : decode cL_acts 251 = .ok (.iload_n 2, 1) := by decide +kernel
theorem dL_acts_252 : decode cL_acts 252 = .ok (.bipush 6, 2) := by decide +kernel
theorem dL_acts_254 : decode cL_acts 254 = .ok (.irem, 1) := by decide +kernel
theorem dL_acts_255 : decode cL_acts 255 = .ok (.invokestatic 223, 3) := by decide +kernel
theorem dL_acts_258 : decode cL_acts 258 = .ok (.lreturn, 1) := by decide +kernel
theorem dL_acts_259 : decode cL_acts 259 = .ok (.iload_n 2, 1) := by decide +kernel
theorem dL_acts_260 : decode cL_acts 260 = .ok (.iconst 2, 1) := by decide +kernel
theorem dL_acts_261 : decode cL_acts 261 = .ok (.irem, 1) := by decide +kernel
theorem dL_acts_262 : decode cL_acts 262 = .ok (.ifCond .ne 16, 3) := by decide +kernel
theorem dL_acts_265 : decode cL_acts 265 = .ok (.aload_n 0, 1) := by decide +kernel
theorem dL_acts_266 : decode cL_acts 266 = .ok (.iconst 1, 1) := by decide +kernel
theorem dL_acts_267 : decode cL_acts 267 = .ok (.iload_n 2, 1) := by decide +kernel
theorem dL_acts_268 : decode cL_acts 268 = .ok (.bipush 20, 2) := by decide +kernel
theorem dL_acts_270 : decode cL_acts 270 = .ok (.irem, 1) := by decide +kernel
theorem dL_acts_271 : decode cL_acts 271 = .ok (.iadd, 1) := by decide +kernel
theorem dL_acts_272 : decode cL_acts 272 = .ok (.invokestatic 225, 3) := by decide +kernel
theorem dL_acts_275 : decode cL_acts 275 = .ok (.goto 13, 3) := by decide +kernel
theorem dL_acts_278 : decode cL_acts 278 = .ok (.aload_n 0, 1) := by decide +kernel
theorem dL_acts_279 : decode cL_acts 279 = .ok (.iconst 1, 1) := by decide +kernel
theorem dL_acts_280 : decode cL_acts 280 = .ok (.iload_n 2, 1) := by decide +kernel
theorem dL_acts_281 : decode cL_acts 281 = .ok (.bipush 9, 2) := by decide +kernel
theorem dL_acts_283 : decode cL_acts 283 = .ok (.irem, 1) := by decide +kernel
theorem dL_acts_284 : decode cL_acts 284 = .ok (.iadd, 1) := by decide +kernel
theorem dL_acts_285 : decode cL_acts 285 = .ok (.invokestatic 227, 3) := by decide +kernel
theorem dL_acts_288 : decode cL_acts 288 = .ok (.lreturn, 1) := by decide +kernel
theorem dL_acts_289 : decode cL_acts 289 = .ok (.aload_n 0, 1) := by decide +kernel
theorem dL_acts_290 : decode cL_acts 290 = .ok (.getstatic 229, 3) := by decide +kernel
theorem dL_acts_293 : decode cL_acts 293 = .ok (.iload_n 2, 1) := by decide +kernel
theorem dL_acts_294 : decode cL_acts 294 = .ok (.bipush 6, 2) := by decide +kernel
theorem dL_acts_296 : decode cL_acts 296 = .ok (.irem, 1) := by decide +kernel
theorem dL_acts_297 : decode cL_acts 297 = .ok (.aaload, 1) := by decide +kernel
theorem dL_acts_298 : decode cL_acts 298 = .ok (.invokestatic 233, 3) := by decide +kernel
theorem dL_acts_301 : decode cL_acts 301 = .ok (.lreturn, 1) := by decide +kernel
theorem dL_acts_302 : decode cL_acts 302 = .ok (.aload_n 0, 1) := by decide +kernel
theorem dL_acts_303 : decode cL_acts 303 = .ok (.iconst 1, 1) := by decide +kernel
theorem dL_acts_304 : decode cL_acts 304 = .ok (.iload_n 2, 1) := by decide +kernel
theorem dL_acts_305 : decode cL_acts 305 = .ok (.iconst 5, 1) := by decide +kernel
theorem dL_acts_306 : decode cL_acts 306 = .ok (.irem, 1) := by decide +kernel
theorem dL_acts_307 : decode cL_acts 307 = .ok (.iadd, 1) := by decide +kernel
theorem dL_acts_308 : decode cL_acts 308 = .ok (.invokestatic 237, 3) := by decide +kernel
theorem dL_acts_311 : decode cL_acts 311 = .ok (.lreturn, 1) := by decide +kernel
theorem dL_writes_0 : decode cL_writes 0 = .ok (.aload_n 0, 1) := by decide +kernel
theorem dL_writes_1 : decode cL_writes 1 = .ok (.iload_n 1, 1) := by decide +kernel
theorem dL_writes_2 : decode cL_writes 2 = .ok (.iload_n 2, 1) := by decide +kernel
theorem dL_writes_3 : decode cL_writes 3 = .ok (.invokestatic 239, 3) := by decide +kernel
theorem dL_writes_6 : decode cL_writes 6 = .ok (.lstore_n 3, 1) := by decide +kernel
theorem dL_writes_7 : decode cL_writes 7 = .ok (.lload_n 3, 1) := by decide +kernel
theorem dL_writes_8 : decode cL_writes 8 = .ok (.aload_n 0, 1) := by decide +kernel
theorem dL_writes_9 : decode cL_writes 9 = .ok (.iload_n 1, 1) := by decide +kernel
theorem dL_writes_10 : decode cL_writes 10 = .ok (.iload_n 2, 1) := by decide +kernel
theorem dL_writes_11 : decode cL_writes 11 = .ok (.invokestatic 241, 3) := by decide +kernel
theorem dL_writes_14 : decode cL_writes 14 = .ok (.lcmp, 1) := by decide +kernel
theorem dL_writes_15 : decode cL_writes 15 = .ok (.ifCond .eq 5, 3) := by decide +kernel
theorem dL_writes_18 : decode cL_writes 18 = .ok (.iconst 0, 1) := by decide +kernel
theorem dL_writes_19 : decode cL_writes 19 = .ok (.ireturn, 1) := by decide +kernel
theorem dL_writes_20 : decode cL_writes 20 = .ok (.lload_n 3, 1) := by decide +kernel
theorem dL_writes_21 : decode cL_writes 21 = .ok (.lconst 0, 1) := by decide +kernel
theorem dL_writes_22 : decode cL_writes 22 = .ok (.lcmp, 1) := by decide +kernel
theorem dL_writes_23 : decode cL_writes 23 = .ok (.ifCond .lt 25, 3) := by decide +kernel
theorem dL_writes_26 : decode cL_writes 26 = .ok (.lload_n 3, 1) := by decide +kernel
theorem dL_writes_27 : decode cL_writes 27 = .ok (.ldc2_w 243, 3) := by decide +kernel
theorem dL_writes_30 : decode cL_writes 30 = .ok (.lcmp, 1) := by decide +kernel
theorem dL_writes_31 : decode cL_writes 31 = .ok (.ifCond .gt 17, 3) := by decide +kernel
theorem dL_writes_34 : decode cL_writes 34 = .ok (.lload_n 3, 1) := by decide +kernel
theorem dL_writes_35 : decode cL_writes 35 = .ok (.aload_n 0, 1) := by decide +kernel
theorem dL_writes_36 : decode cL_writes 36 = .ok (.iconst 2, 1) := by decide +kernel
theorem dL_writes_37 : decode cL_writes 37 = .ok (.invokestatic 184, 3) := by decide +kernel
theorem dL_writes_40 : decode cL_writes 40 = .ok (.ladd, 1) := by decide +kernel
theorem dL_writes_41 : decode cL_writes 41 = .ok (.ldc2_w 245, 3) := by decide +kernel
theorem dL_writes_44 : decode cL_writes 44 = .ok (.lcmp, 1) := by decide +kernel
theorem dL_writes_45 : decode cL_writes 45 = .ok (.ifCond .lt 5, 3) := by decide +kernel
theorem dL_writes_48 : decode cL_writes 48 = .ok (.iconst 1, 1) := by decide +kernel
theorem dL_writes_49 : decode cL_writes 49 = .ok (.ireturn, 1) := by decide +kernel
theorem dL_writes_50 : decode cL_writes 50 = .ok (.aload_n 0, 1) := by decide +kernel
theorem dL_writes_51 : decode cL_writes 51 = .ok (.invokestatic 247, 3) := by decide +kernel
theorem dL_writes_54 : decode cL_writes 54 = .ok (.pop2, 1) := by decide +kernel
theorem dL_writes_55 : decode cL_writes 55 = .ok (.aload_n 0, 1) := by decide +kernel
theorem dL_writes_56 : decode cL_writes 56 = .ok (.invokestatic 249, 3) := by decide +kernel
theorem dL_writes_59 : decode cL_writes 59 = .ok (.lstore 5, 2) := by decide +kernel
theorem dL_writes_61 : decode cL_writes 61 = .ok (.lconst 0, 1) := by decide +kernel
theorem dL_writes_62 : decode cL_writes 62 = .ok (.lstore 7, 2) := by decide +kernel
theorem dL_writes_64 : decode cL_writes 64 = .ok (.lload 7, 2) := by decide +kernel
theorem dL_writes_66 : decode cL_writes 66 = .ok (.lload_n 3, 1) := by decide +kernel
theorem dL_writes_67 : decode cL_writes 67 = .ok (.lcmp, 1) := by decide +kernel
theorem dL_writes_68 : decode cL_writes 68 = .ok (.ifCond .ge 27, 3) := by decide +kernel
theorem dL_writes_71 : decode cL_writes 71 = .ok (.aload_n 0, 1) := by decide +kernel
theorem dL_writes_72 : decode cL_writes 72 = .ok (.iconst 0, 1) := by decide +kernel
theorem dL_writes_73 : decode cL_writes 73 = .ok (.iconst 1, 1) := by decide +kernel
theorem dL_writes_74 : decode cL_writes 74 = .ok (.iload_n 2, 1) := by decide +kernel
theorem dL_writes_75 : decode cL_writes 75 = .ok (.iload_n 1, 1) := by decide +kernel
theorem dL_writes_76 : decode cL_writes 76 = .ok (.invokestatic 207, 3) := by decide +kernel
theorem dL_writes_79 : decode cL_writes 79 = .ok (.lconst 0, 1) := by decide +kernel
theorem dL_writes_80 : decode cL_writes 80 = .ok (.lcmp, 1) := by decide +kernel
theorem dL_writes_81 : decode cL_writes 81 = .ok (.ifCond .ge 5, 3) := by decide +kernel
theorem dL_writes_84 : decode cL_writes 84 = .ok (.iconst 0, 1) := by decide +kernel
theorem dL_writes_85 : decode cL_writes 85 = .ok (.ireturn, 1) := by decide +kernel
theorem dL_writes_86 : decode cL_writes 86 = .ok (.lload 7, 2) := by decide +kernel
theorem dL_writes_88 : decode cL_writes 88 = .ok (.lconst 1, 1) := by decide +kernel
theorem dL_writes_89 : decode cL_writes 89 = .ok (.ladd, 1) := by decide +kernel
theorem dL_writes_90 : decode cL_writes 90 = .ok (.lstore 7, 2) := by decide +kernel
theorem dL_writes_92 : decode cL_writes 92 = .ok (.goto (-28), 3) := by decide +kernel
theorem dL_writes_95 : decode cL_writes 95 = .ok (.aload_n 0, 1) := by decide +kernel
theorem dL_writes_96 : decode cL_writes 96 = .ok (.iconst 0, 1) := by decide +kernel
theorem dL_writes_97 : decode cL_writes 97 = .ok (.iconst 1, 1) := by decide +kernel
theorem dL_writes_98 : decode cL_writes 98 = .ok (.iload_n 2, 1) := by decide +kernel
theorem dL_writes_99 : decode cL_writes 99 = .ok (.iload_n 1, 1) := by decide +kernel
theorem dL_writes_100 : decode cL_writes 100 = .ok (.invokestatic 207, 3) := by decide +kernel
theorem dL_writes_103 : decode cL_writes 103 = .ok (.ldc2_w 39, 3) := by decide +kernel
theorem dL_writes_106 : decode cL_writes 106 = .ok (.lcmp, 1) := by decide +kernel
theorem dL_writes_107 : decode cL_writes 107 = .ok (.ifCond .ne 7, 3) := by decide +kernel
theorem dL_writes_110 : decode cL_writes 110 = .ok (.iconst 1, 1) := by decide +kernel
theorem dL_writes_111 : decode cL_writes 111 = .ok (.goto 4, 3) := by decide +kernel
theorem dL_writes_114 : decode cL_writes 114 = .ok (.iconst 0, 1) := by decide +kernel
theorem dL_writes_115 : decode cL_writes 115 = .ok (.istore 7, 2) := by decide +kernel
theorem dL_writes_117 : decode cL_writes 117 = .ok (.aload_n 0, 1) := by decide +kernel
theorem dL_writes_118 : decode cL_writes 118 = .ok (.invokestatic 252, 3) := by decide +kernel
theorem dL_writes_121 : decode cL_writes 121 = .ok (.pop2, 1) := by decide +kernel
theorem dL_writes_122 : decode cL_writes 122 = .ok (.iload 7, 2) := by decide +kernel
theorem dL_writes_124 : decode cL_writes 124 = .ok (.ifCond .eq 17, 3) := by decide +kernel
theorem dL_writes_127 : decode cL_writes 127 = .ok (.aload_n 0, 1) := by decide +kernel
theorem dL_writes_128 : decode cL_writes 128 = .ok (.invokestatic 249, 3) := by decide +kernel
theorem dL_writes_131 : decode cL_writes 131 = .ok (.lload 5, 2) := by decide +kernel
theorem dL_writes_133 : decode cL_writes 133 = .ok (.lcmp, 1) := by decide +kernel
theorem dL_writes_134 : decode cL_writes 134 = .ok (.ifCond .ne 7, 3) := by decide +kernel
theorem dL_writes_137 : decode cL_writes 137 = .ok (.iconst 1, 1) := by decide +kernel
theorem dL_writes_138 : decode cL_writes 138 = .ok (.goto 4, 3) := by decide +kernel
theorem dL_writes_141 : decode cL_writes 141 = .ok (.iconst 0, 1) := by decide +kernel
theorem dL_writes_142 : decode cL_writes 142 = .ok (.ireturn, 1) := by decide +kernel
theorem dL_eats_0 : decode cL_eats 0 = .ok (.aload_n 0, 1) := by decide +kernel
theorem dL_eats_1 : decode cL_eats 1 = .ok (.invokestatic 254, 3) := by decide +kernel
theorem dL_eats_4 : decode cL_eats 4 = .ok (.lstore_n 1, 1) := by decide +kernel
theorem dL_eats_5 : decode cL_eats 5 = .ok (.lload_n 1, 1) := by decide +kernel
theorem dL_eats_6 : decode cL_eats 6 = .ok (.ldc2_w 17, 3) := by decide +kernel
theorem dL_eats_9 : decode cL_eats 9 = .ok (.lcmp, 1) := by decide +kernel
theorem dL_eats_10 : decode cL_eats 10 = .ok (.ifCond .ne 20, 3) := by decide +kernel
theorem dL_eats_13 : decode cL_eats 13 = .ok (.aload_n 0, 1) := by decide +kernel
theorem dL_eats_14 : decode cL_eats 14 = .ok (.invokestatic 256, 3) := by decide +kernel
theorem dL_eats_17 : decode cL_eats 17 = .ok (.ldc2_w 17, 3) := by decide +kernel
theorem dL_eats_20 : decode cL_eats 20 = .ok (.lcmp, 1) := by decide +kernel
theorem dL_eats_21 : decode cL_eats 21 = .ok (.ifCond .ne 7, 3) := by decide +kernel
theorem dL_eats_24 : decode cL_eats 24 = .ok (.iconst 1, 1) := by decide +kernel
theorem dL_eats_25 : decode cL_eats 25 = .ok (.goto 4, 3) := by decide +kernel
theorem dL_eats_28 : decode cL_eats 28 = .ok (.iconst 0, 1) := by decide +kernel
theorem dL_eats_29 : decode cL_eats 29 = .ok (.ireturn, 1) := by decide +kernel
theorem dL_eats_30 : decode cL_eats 30 = .ok (.lload_n 1, 1) := by decide +kernel
theorem dL_eats_31 : decode cL_eats 31 = .ok (.lconst 1, 1) := by decide +kernel
theorem dL_eats_32 : decode cL_eats 32 = .ok (.lcmp, 1) := by decide +kernel
theorem dL_eats_33 : decode cL_eats 33 = .ok (.ifCond .lt 11, 3) := by decide +kernel
theorem dL_eats_36 : decode cL_eats 36 = .ok (.lload_n 1, 1) := by decide +kernel
theorem dL_eats_37 : decode cL_eats 37 = .ok (.ldc2_w 258, 3) := by decide +kernel
theorem dL_eats_40 : decode cL_eats 40 = .ok (.lcmp, 1) := by decide +kernel
theorem dL_eats_41 : decode cL_eats 41 = .ok (.ifCond .le 5, 3) := by decide +kernel
theorem dL_eats_44 : decode cL_eats 44 = .ok (.iconst 0, 1) := by decide +kernel
theorem dL_eats_45 : decode cL_eats 45 = .ok (.ireturn, 1) := by decide +kernel
theorem dL_eats_46 : decode cL_eats 46 = .ok (.aload_n 0, 1) := by decide +kernel
theorem dL_eats_47 : decode cL_eats 47 = .ok (.invokestatic 249, 3) := by decide +kernel
theorem dL_eats_50 : decode cL_eats 50 = .ok (.lstore_n 3, 1) := by decide +kernel
theorem dL_eats_51 : decode cL_eats 51 = .ok (.aload_n 0, 1) := by decide +kernel
theorem dL_eats_52 : decode cL_eats 52 = .ok (.bipush 9, 2) := by decide +kernel
theorem dL_eats_54 : decode cL_eats 54 = .ok (.invokestatic 184, 3) := by decide +kernel
theorem dL_eats_57 : decode cL_eats 57 = .ok (.lstore 5, 2) := by decide +kernel
theorem dL_eats_59 : decode cL_eats 59 = .ok (.aload_n 0, 1) := by decide +kernel
theorem dL_eats_60 : decode cL_eats 60 = .ok (.lload_n 1, 1) := by decide +kernel
theorem dL_eats_61 : decode cL_eats 61 = .ok (.l2i, 1) := by decide +kernel
theorem dL_eats_62 : decode cL_eats 62 = .ok (.invokestatic 237, 3) := by decide +kernel
theorem dL_eats_65 : decode cL_eats 65 = .ok (.lconst 1, 1) := by decide +kernel
theorem dL_eats_66 : decode cL_eats 66 = .ok (.lcmp, 1) := by decide +kernel
theorem dL_eats_67 : decode cL_eats 67 = .ok (.ifCond .ne 21, 3) := by decide +kernel
theorem dL_eats_70 : decode cL_eats 70 = .ok (.aload_n 0, 1) := by decide +kernel
theorem dL_eats_71 : decode cL_eats 71 = .ok (.bipush 9, 2) := by decide +kernel
theorem dL_eats_73 : decode cL_eats 73 = .ok (.invokestatic 184, 3) := by decide +kernel
theorem dL_eats_76 : decode cL_eats 76 = .ok (.lload 5, 2) := by decide +kernel
theorem dL_eats_78 : decode cL_eats 78 = .ok (.lconst 1, 1) := by decide +kernel
theorem dL_eats_79 : decode cL_eats 79 = .ok (.ladd, 1) := by decide +kernel
theorem dL_eats_80 : decode cL_eats 80 = .ok (.lcmp, 1) := by decide +kernel
theorem dL_eats_81 : decode cL_eats 81 = .ok (.ifCond .ne 7, 3) := by decide +kernel
theorem dL_eats_84 : decode cL_eats 84 = .ok (.iconst 1, 1) := by decide +kernel
theorem dL_eats_85 : decode cL_eats 85 = .ok (.goto 4, 3) := by decide +kernel
theorem dL_eats_88 : decode cL_eats 88 = .ok (.iconst 0, 1) := by decide +kernel
theorem dL_eats_89 : decode cL_eats 89 = .ok (.istore 7, 2) := by decide +kernel
theorem dL_eats_91 : decode cL_eats 91 = .ok (.aload_n 0, 1) := by decide +kernel
theorem dL_eats_92 : decode cL_eats 92 = .ok (.invokestatic 260, 3) := by decide +kernel
theorem dL_eats_95 : decode cL_eats 95 = .ok (.pop2, 1) := by decide +kernel
theorem dL_eats_96 : decode cL_eats 96 = .ok (.lload_n 1, 1) := by decide +kernel
theorem dL_eats_97 : decode cL_eats 97 = .ok (.lconst 1, 1) := by decide +kernel
theorem dL_eats_98 : decode cL_eats 98 = .ok (.lcmp, 1) := by decide +kernel
theorem dL_eats_99 : decode cL_eats 99 = .ok (.ifCond .le 31, 3) := by decide +kernel
theorem dL_eats_102 : decode cL_eats 102 = .ok (.iload 7, 2) := by decide +kernel
theorem dL_eats_104 : decode cL_eats 104 = .ok (.aload_n 0, 1) := by decide +kernel
theorem dL_eats_105 : decode cL_eats 105 = .ok (.lload_n 1, 1) := by decide +kernel
theorem dL_eats_106 : decode cL_eats 106 = .ok (.l2i, 1) := by decide +kernel
theorem dL_eats_107 : decode cL_eats 107 = .ok (.iconst 1, 1) := by decide +kernel
theorem dL_eats_108 : decode cL_eats 108 = .ok (.isub, 1) := by decide +kernel
theorem dL_eats_109 : decode cL_eats 109 = .ok (.invokestatic 237, 3) := by decide +kernel
theorem dL_eats_112 : decode cL_eats 112 = .ok (.lconst 0, 1) := by decide +kernel
theorem dL_eats_113 : decode cL_eats 113 = .ok (.lcmp, 1) := by decide +kernel
theorem dL_eats_114 : decode cL_eats 114 = .ok (.ifCond .ne 7, 3) := by decide +kernel
theorem dL_eats_117 : decode cL_eats 117 = .ok (.iconst 1, 1) := by decide +kernel
theorem dL_eats_118 : decode cL_eats 118 = .ok (.goto 4, 3) := by decide +kernel
theorem dL_eats_121 : decode cL_eats 121 = .ok (.iconst 0, 1) := by decide +kernel
theorem dL_eats_122 : decode cL_eats 122 = .ok (.iand, 1) := by decide +kernel
theorem dL_eats_123 : decode cL_eats 123 = .ok (.istore 7, 2) := by decide +kernel
theorem dL_eats_125 : decode cL_eats 125 = .ok (.aload_n 0, 1) := by decide +kernel
theorem dL_eats_126 : decode cL_eats 126 = .ok (.invokestatic 260, 3) := by decide +kernel
theorem dL_eats_129 : decode cL_eats 129 = .ok (.pop2, 1) := by decide +kernel
theorem dL_eats_130 : decode cL_eats 130 = .ok (.iload 7, 2) := by decide +kernel
theorem dL_eats_132 : decode cL_eats 132 = .ok (.ifCond .eq 16, 3) := by decide +kernel
theorem dL_eats_135 : decode cL_eats 135 = .ok (.aload_n 0, 1) := by decide +kernel
theorem dL_eats_136 : decode cL_eats 136 = .ok (.invokestatic 249, 3) := by decide +kernel
theorem dL_eats_139 : decode cL_eats 139 = .ok (.lload_n 3, 1) := by decide +kernel
theorem dL_eats_140 : decode cL_eats 140 = .ok (.lcmp, 1) := by decide +kernel
theorem dL_eats_141 : decode cL_eats 141 = .ok (.ifCond .ne 7, 3) := by decide +kernel
theorem dL_eats_144 : decode cL_eats 144 = .ok (.iconst 1, 1) := by decide +kernel
theorem dL_eats_145 : decode cL_eats 145 = .ok (.goto 4, 3) := by decide +kernel
theorem dL_eats_148 : decode cL_eats 148 = .ok (.iconst 0, 1) := by decide +kernel
theorem dL_eats_149 : decode cL_eats 149 = .ok (.ireturn, 1) := by decide +kernel
theorem dL_fits_0 : decode cL_fits 0 = .ok (.aload_n 0, 1) := by decide +kernel
theorem dL_fits_1 : decode cL_fits 1 = .ok (.invokestatic 262, 3) := by decide +kernel
theorem dL_fits_4 : decode cL_fits 4 = .ok (.lconst 1, 1) := by decide +kernel
theorem dL_fits_5 : decode cL_fits 5 = .ok (.lcmp, 1) := by decide +kernel
theorem dL_fits_6 : decode cL_fits 6 = .ok (.ifCond .eq 5, 3) := by decide +kernel
theorem dL_fits_9 : decode cL_fits 9 = .ok (.iconst 0, 1) := by decide +kernel
theorem dL_fits_10 : decode cL_fits 10 = .ok (.ireturn, 1) := by decide +kernel
theorem dL_fits_11 : decode cL_fits 11 = .ok (.lconst 0, 1) := by decide +kernel
theorem dL_fits_12 : decode cL_fits 12 = .ok (.lstore_n 2, 1) := by decide +kernel
theorem dL_fits_13 : decode cL_fits 13 = .ok (.iconst 5, 1) := by decide +kernel
theorem dL_fits_14 : decode cL_fits 14 = .ok (.istore 4, 2) := by decide +kernel
theorem dL_fits_16 : decode cL_fits 16 = .ok (.iload 4, 2) := by decide +kernel
theorem dL_fits_18 : decode cL_fits 18 = .ok (.bipush 10, 2) := by decide +kernel
theorem dL_fits_20 : decode cL_fits 20 = .ok (.if_icmp .ge 18, 3) := by decide +kernel
theorem dL_fits_23 : decode cL_fits 23 = .ok (.lload_n 2, 1) := by decide +kernel
theorem dL_fits_24 : decode cL_fits 24 = .ok (.aload_n 0, 1) := by decide +kernel
theorem dL_fits_25 : decode cL_fits 25 = .ok (.iload 4, 2) := by decide +kernel
theorem dL_fits_27 : decode cL_fits 27 = .ok (.invokestatic 184, 3) := by decide +kernel
theorem dL_fits_30 : decode cL_fits 30 = .ok (.ladd, 1) := by decide +kernel
theorem dL_fits_31 : decode cL_fits 31 = .ok (.lstore_n 2, 1) := by decide +kernel
theorem dL_fits_32 : decode cL_fits 32 = .ok (.iinc 4 1, 3) := by decide +kernel
theorem dL_fits_35 : decode cL_fits 35 = .ok (.goto (-19), 3) := by decide +kernel
theorem dL_fits_38 : decode cL_fits 38 = .ok (.lconst 0, 1) := by decide +kernel
theorem dL_fits_39 : decode cL_fits 39 = .ok (.lstore 4, 2) := by decide +kernel
theorem dL_fits_41 : decode cL_fits 41 = .ok (.iconst 0, 1) := by decide +kernel
theorem dL_fits_42 : decode cL_fits 42 = .ok (.istore 6, 2) := by decide +kernel
theorem dL_fits_44 : decode cL_fits 44 = .ok (.iload 6, 2) := by decide +kernel
theorem dL_fits_46 : decode cL_fits 46 = .ok (.bipush 6, 2) := by decide +kernel
theorem dL_fits_48 : decode cL_fits 48 = .ok (.if_icmp .ge 20, 3) := by decide +kernel
theorem dL_fits_51 : decode cL_fits 51 = .ok (.lload 4, 2) := by decide +kernel
theorem dL_fits_53 : decode cL_fits 53 = .ok (.aload_n 0, 1) := by decide +kernel
theorem dL_fits_54 : decode cL_fits 54 = .ok (.iload 6, 2) := by decide +kernel
theorem dL_fits_56 : decode cL_fits 56 = .ok (.invokestatic 196, 3) := by decide +kernel
theorem dL_fits_59 : decode cL_fits 59 = .ok (.ladd, 1) := by decide +kernel
theorem dL_fits_60 : decode cL_fits 60 = .ok (.lstore 4, 2) := by decide +kernel
theorem dL_fits_62 : decode cL_fits 62 = .ok (.iinc 6 1, 3) := by decide +kernel
theorem dL_fits_65 : decode cL_fits 65 = .ok (.goto (-21), 3) := by decide +kernel
theorem dL_fits_68 : decode cL_fits 68 = .ok (.lload_n 2, 1) := by decide +kernel
theorem dL_fits_69 : decode cL_fits 69 = .ok (.aload_n 0, 1) := by decide +kernel
theorem dL_fits_70 : decode cL_fits 70 = .ok (.iconst 2, 1) := by decide +kernel
theorem dL_fits_71 : decode cL_fits 71 = .ok (.invokestatic 184, 3) := by decide +kernel
theorem dL_fits_74 : decode cL_fits 74 = .ok (.lcmp, 1) := by decide +kernel
theorem dL_fits_75 : decode cL_fits 75 = .ok (.ifCond .ne 15, 3) := by decide +kernel
theorem dL_fits_78 : decode cL_fits 78 = .ok (.lload 4, 2) := by decide +kernel
theorem dL_fits_80 : decode cL_fits 80 = .ok (.aload_n 0, 1) := by decide +kernel
theorem dL_fits_81 : decode cL_fits 81 = .ok (.bipush 8, 2) := by decide +kernel
theorem dL_fits_83 : decode cL_fits 83 = .ok (.invokestatic 184, 3) := by decide +kernel
theorem dL_fits_86 : decode cL_fits 86 = .ok (.lcmp, 1) := by decide +kernel
theorem dL_fits_87 : decode cL_fits 87 = .ok (.ifCond .le 5, 3) := by decide +kernel
theorem dL_fits_90 : decode cL_fits 90 = .ok (.iconst 0, 1) := by decide +kernel
theorem dL_fits_91 : decode cL_fits 91 = .ok (.ireturn, 1) := by decide +kernel
theorem dL_fits_92 : decode cL_fits 92 = .ok (.iconst 0, 1) := by decide +kernel
theorem dL_fits_93 : decode cL_fits 93 = .ok (.istore 6, 2) := by decide +kernel
theorem dL_fits_95 : decode cL_fits 95 = .ok (.iload 6, 2) := by decide +kernel
theorem dL_fits_97 : decode cL_fits 97 = .ok (.bipush 30, 2) := by decide +kernel
theorem dL_fits_99 : decode cL_fits 99 = .ok (.if_icmp .ge 116, 3) := by decide +kernel
theorem dL_fits_102 : decode cL_fits 102 = .ok (.iload 6, 2) := by decide +kernel
theorem dL_fits_104 : decode cL_fits 104 = .ok (.iconst 5, 1) := by decide +kernel
theorem dL_fits_105 : decode cL_fits 105 = .ok (.irem, 1) := by decide +kernel
theorem dL_fits_106 : decode cL_fits 106 = .ok (.iconst 3, 1) := by decide +kernel
theorem dL_fits_107 : decode cL_fits 107 = .ok (.idiv, 1) := by decide +kernel
theorem dL_fits_108 : decode cL_fits 108 = .ok (.istore 7, 2) := by decide +kernel
theorem dL_fits_110 : decode cL_fits 110 = .ok (.aload_n 0, 1) := by decide +kernel
theorem dL_fits_111 : decode cL_fits 111 = .ok (.iload 6, 2) := by decide +kernel
theorem dL_fits_113 : decode cL_fits 113 = .ok (.iconst 5, 1) := by decide +kernel
theorem dL_fits_114 : decode cL_fits 114 = .ok (.idiv, 1) := by decide +kernel
theorem dL_fits_115 : decode cL_fits 115 = .ok (.iload 7, 2) := by decide +kernel
theorem dL_fits_117 : decode cL_fits 117 = .ok (.iload 6, 2) := by decide +kernel
theorem dL_fits_119 : decode cL_fits 119 = .ok (.iconst 5, 1) := by decide +kernel
theorem dL_fits_120 : decode cL_fits 120 = .ok (.irem, 1) := by decide +kernel
theorem dL_fits_121 : decode cL_fits 121 = .ok (.iconst 3, 1) := by decide +kernel
theorem dL_fits_122 : decode cL_fits 122 = .ok (.iload 7, 2) := by decide +kernel
theorem dL_fits_124 : decode cL_fits 124 = .ok (.imul, 1) := by decide +kernel
theorem dL_fits_125 : decode cL_fits 125 = .ok (.isub, 1) := by decide +kernel
theorem dL_fits_126 : decode cL_fits 126 = .ok (.invokestatic 264, 3) := by decide +kernel
theorem dL_fits_129 : decode cL_fits 129 = .ok (.lstore 8, 2) := by decide +kernel
theorem dL_fits_131 : decode cL_fits 131 = .ok (.lload 8, 2) := by decide +kernel
theorem dL_fits_133 : decode cL_fits 133 = .ok (.lconst 0, 1) := by decide +kernel
theorem dL_fits_134 : decode cL_fits 134 = .ok (.lcmp, 1) := by decide +kernel
theorem dL_fits_135 : decode cL_fits 135 = .ok (.ifCond .lt 74, 3) := by decide +kernel
theorem dL_fits_138 : decode cL_fits 138 = .ok (.aload_n 0, 1) := by decide +kernel
theorem dL_fits_139 : decode cL_fits 139 = .ok (.lload 8, 2) := by decide +kernel
theorem dL_fits_141 : decode cL_fits 141 = .ok (.l2i, 1) := by decide +kernel
theorem dL_fits_142 : decode cL_fits 142 = .ok (.iconst 2, 1) := by decide +kernel
theorem dL_fits_143 : decode cL_fits 143 = .ok (.invokestatic 187, 3) := by decide +kernel
theorem dL_fits_146 : decode cL_fits 146 = .ok (.iload 6, 2) := by decide +kernel
theorem dL_fits_148 : decode cL_fits 148 = .ok (.iconst 5, 1) := by decide +kernel
theorem dL_fits_149 : decode cL_fits 149 = .ok (.idiv, 1) := by decide +kernel
theorem dL_fits_150 : decode cL_fits 150 = .ok (.i2l, 1) := by decide +kernel
theorem dL_fits_151 : decode cL_fits 151 = .ok (.lcmp, 1) := by decide +kernel
theorem dL_fits_152 : decode cL_fits 152 = .ok (.ifCond .ne 55, 3) := by decide +kernel
theorem dL_fits_155 : decode cL_fits 155 = .ok (.aload_n 0, 1) := by decide +kernel
theorem dL_fits_156 : decode cL_fits 156 = .ok (.lload 8, 2) := by decide +kernel
theorem dL_fits_158 : decode cL_fits 158 = .ok (.l2i, 1) := by decide +kernel
theorem dL_fits_159 : decode cL_fits 159 = .ok (.iconst 0, 1) := by decide +kernel
theorem dL_fits_160 : decode cL_fits 160 = .ok (.invokestatic 187, 3) := by decide +kernel
theorem dL_fits_163 : decode cL_fits 163 = .ok (.iload 7, 2) := by decide +kernel
theorem dL_fits_165 : decode cL_fits 165 = .ok (.i2l, 1) := by decide +kernel
theorem dL_fits_166 : decode cL_fits 166 = .ok (.lcmp, 1) := by decide +kernel
theorem dL_fits_167 : decode cL_fits 167 = .ok (.ifCond .ne 40, 3) := by decide +kernel
theorem dL_fits_170 : decode cL_fits 170 = .ok (.aload_n 0, 1) := by decide +kernel
theorem dL_fits_171 : decode cL_fits 171 = .ok (.lload 8, 2) := by decide +kernel
theorem dL_fits_173 : decode cL_fits 173 = .ok (.l2i, 1) := by decide +kernel
theorem dL_fits_174 : decode cL_fits 174 = .ok (.iconst 4, 1) := by decide +kernel
theorem dL_fits_175 : decode cL_fits 175 = .ok (.invokestatic 187, 3) := by decide +kernel
theorem dL_fits_178 : decode cL_fits 178 = .ok (.ldc2_w 267, 3) := by decide +kernel
theorem dL_fits_181 : decode cL_fits 181 = .ok (.lcmp, 1) := by decide +kernel
theorem dL_fits_182 : decode cL_fits 182 = .ok (.ifCond .ne 25, 3) := by decide +kernel
theorem dL_fits_185 : decode cL_fits 185 = .ok (.aload_n 0, 1) := by decide +kernel
theorem dL_fits_186 : decode cL_fits 186 = .ok (.lload 8, 2) := by decide +kernel
theorem dL_fits_188 : decode cL_fits 188 = .ok (.l2i, 1) := by decide +kernel
theorem dL_fits_189 : decode cL_fits 189 = .ok (.iconst 5, 1) := by decide +kernel
theorem dL_fits_190 : decode cL_fits 190 = .ok (.invokestatic 187, 3) := by decide +kernel
theorem dL_fits_193 : decode cL_fits 193 = .ok (.iload 6, 2) := by decide +kernel
theorem dL_fits_195 : decode cL_fits 195 = .ok (.iconst 5, 1) := by decide +kernel
theorem dL_fits_196 : decode cL_fits 196 = .ok (.irem, 1) := by decide +kernel
theorem dL_fits_197 : decode cL_fits 197 = .ok (.iconst 3, 1) := by decide +kernel
theorem dL_fits_198 : decode cL_fits 198 = .ok (.iload 7, 2) := by decide +kernel
theorem dL_fits_200 : decode cL_fits 200 = .ok (.imul, 1) := by decide +kernel
theorem dL_fits_201 : decode cL_fits 201 = .ok (.isub, 1) := by decide +kernel
theorem dL_fits_202 : decode cL_fits 202 = .ok (.i2l, 1) := by decide +kernel
theorem dL_fits_203 : decode cL_fits 203 = .ok (.lcmp, 1) := by decide +kernel
theorem dL_fits_204 : decode cL_fits 204 = .ok (.ifCond .eq 5, 3) := by decide +kernel
theorem dL_fits_207 : decode cL_fits 207 = .ok (.iconst 0, 1) := by decide +kernel
theorem dL_fits_208 : decode cL_fits 208 = .ok (.ireturn, 1) := by decide +kernel
theorem dL_fits_209 : decode cL_fits 209 = .ok (.iinc 6 1, 3) := by decide +kernel
theorem dL_fits_212 : decode cL_fits 212 = .ok (.goto (-117), 3) := by decide +kernel
theorem dL_fits_215 : decode cL_fits 215 = .ok (.iconst 0, 1) := by decide +kernel
theorem dL_fits_216 : decode cL_fits 216 = .ok (.istore 6, 2) := by decide +kernel
theorem dL_fits_218 : decode cL_fits 218 = .ok (.iload 6, 2) := by decide +kernel
theorem dL_fits_220 : decode cL_fits 220 = .ok (.iconst 1, 1) := by decide +kernel
theorem dL_fits_221 : decode cL_fits 221 = .ok (.iadd, 1) := by decide +kernel
theorem dL_fits_222 : decode cL_fits 222 = .ok (.i2l, 1) := by decide +kernel
theorem dL_fits_223 : decode cL_fits 223 = .ok (.aload_n 0, 1) := by decide +kernel
theorem dL_fits_224 : decode cL_fits 224 = .ok (.iconst 3, 1) := by decide +kernel
theorem dL_fits_225 : decode cL_fits 225 = .ok (.invokestatic 184, 3) := by decide +kernel
theorem dL_fits_228 : decode cL_fits 228 = .ok (.lcmp, 1) := by decide +kernel
theorem dL_fits_229 : decode cL_fits 229 = .ok (.ifCond .ge 47, 3) := by decide +kernel
theorem dL_fits_232 : decode cL_fits 232 = .ok (.aload_n 0, 1) := by decide +kernel
theorem dL_fits_233 : decode cL_fits 233 = .ok (.aload_n 0, 1) := by decide +kernel
theorem dL_fits_234 : decode cL_fits 234 = .ok (.iload 6, 2) := by decide +kernel
theorem dL_fits_236 : decode cL_fits 236 = .ok (.invokestatic 269, 3) := by decide +kernel
theorem dL_fits_239 : decode cL_fits 239 = .ok (.l2i, 1) := by decide +kernel
theorem dL_fits_240 : decode cL_fits 240 = .ok (.invokestatic 190, 3) := by decide +kernel
theorem dL_fits_243 : decode cL_fits 243 = .ok (.l2i, 1) := by decide +kernel
theorem dL_fits_244 : decode cL_fits 244 = .ok (.invokestatic 271, 3) := by decide +kernel
theorem dL_fits_247 : decode cL_fits 247 = .ok (.aload_n 0, 1) := by decide +kernel
theorem dL_fits_248 : decode cL_fits 248 = .ok (.aload_n 0, 1) := by decide +kernel
theorem dL_fits_249 : decode cL_fits 249 = .ok (.iload 6, 2) := by decide +kernel
theorem dL_fits_251 : decode cL_fits 251 = .ok (.iconst 1, 1) := by decide +kernel
theorem dL_fits_252 : decode cL_fits 252 = .ok (.iadd, 1) := by decide +kernel
theorem dL_fits_253 : decode cL_fits 253 = .ok (.invokestatic 269, 3) := by decide +kernel
theorem dL_fits_256 : decode cL_fits 256 = .ok (.l2i, 1) := by decide +kernel
theorem dL_fits_257 : decode cL_fits 257 = .ok (.invokestatic 190, 3) := by decide +kernel
theorem dL_fits_260 : decode cL_fits 260 = .ok (.l2i, 1) := by decide +kernel
theorem dL_fits_261 : decode cL_fits 261 = .ok (.invokestatic 271, 3) := by decide +kernel
theorem dL_fits_264 : decode cL_fits 264 = .ok (.fcmp .g, 1) := by decide +kernel
theorem dL_fits_265 : decode cL_fits 265 = .ok (.ifCond .ge 5, 3) := by decide +kernel
theorem dL_fits_268 : decode cL_fits 268 = .ok (.iconst 0, 1) := by decide +kernel
theorem dL_fits_269 : decode cL_fits 269 = .ok (.ireturn, 1) := by decide +kernel
theorem dL_fits_270 : decode cL_fits 270 = .ok (.iinc 6 1, 3) := by decide +kernel
theorem dL_fits_273 : decode cL_fits 273 = .ok (.goto (-55), 3) := by decide +kernel
theorem dL_fits_276 : decode cL_fits 276 = .ok (.aload_n 0, 1) := by decide +kernel
theorem dL_fits_277 : decode cL_fits 277 = .ok (.iload_n 1, 1) := by decide +kernel
theorem dL_fits_278 : decode cL_fits 278 = .ok (.iconst 2, 1) := by decide +kernel
theorem dL_fits_279 : decode cL_fits 279 = .ok (.invokestatic 202, 3) := by decide +kernel
theorem dL_fits_282 : decode cL_fits 282 = .ok (.iconst 1, 1) := by decide +kernel
theorem dL_fits_283 : decode cL_fits 283 = .ok (.iload_n 1, 1) := by decide +kernel
theorem dL_fits_284 : decode cL_fits 284 = .ok (.iconst 2, 1) := by decide +kernel
theorem dL_fits_285 : decode cL_fits 285 = .ok (.ishr, 1) := by decide +kernel
theorem dL_fits_286 : decode cL_fits 286 = .ok (.bipush 40, 2) := by decide +kernel
theorem dL_fits_288 : decode cL_fits 288 = .ok (.invokestatic 202, 3) := by decide +kernel
theorem dL_fits_291 : decode cL_fits 291 = .ok (.iadd, 1) := by decide +kernel
theorem dL_fits_292 : decode cL_fits 292 = .ok (.invokestatic 274, 3) := by decide +kernel
theorem dL_fits_295 : decode cL_fits 295 = .ok (.ifCond .eq 14, 3) := by decide +kernel
theorem dL_fits_298 : decode cL_fits 298 = .ok (.aload_n 0, 1) := by decide +kernel
theorem dL_fits_299 : decode cL_fits 299 = .ok (.invokestatic 278, 3) := by decide +kernel
theorem dL_fits_302 : decode cL_fits 302 = .ok (.ifCond .eq 7, 3) := by decide +kernel
theorem dL_fits_305 : decode cL_fits 305 = .ok (.iconst 1, 1) := by decide +kernel
theorem dL_fits_306 : decode cL_fits 306 = .ok (.goto 4, 3) := by decide +kernel
theorem dL_fits_309 : decode cL_fits 309 = .ok (.iconst 0, 1) := by decide +kernel
theorem dL_fits_310 : decode cL_fits 310 = .ok (.ireturn, 1) := by decide +kernel
