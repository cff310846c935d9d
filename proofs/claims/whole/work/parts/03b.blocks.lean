/-! the blocks by their numbers -/
theorem mx0 : mxl 0 = 1 := rfl
theorem b0_0 : blk 0 0 = Bk0_0 := rfl
theorem mx1 : mxl 1 = 4 := rfl
theorem b1_0 : blk 1 0 = Bk1_0 := rfl
theorem mx2 : mxl 2 = 7 := rfl
theorem b2_0 : blk 2 0 = Bk2_0 := rfl
theorem b2_1 : blk 2 1 = Bk2_1 := rfl
theorem b2_2 : blk 2 2 = Bk2_2 := rfl
theorem b2_3 : blk 2 3 = Bk2_3 := rfl
theorem b2_4 : blk 2 4 = Bk2_4 := rfl
theorem b2_5 : blk 2 5 = Bk2_5 := rfl
theorem mx3 : mxl 3 = 6 := rfl
theorem b3_0 : blk 3 0 = Bk3_0 := rfl
theorem b3_1 : blk 3 1 = Bk3_1 := rfl
theorem b3_2 : blk 3 2 = Bk3_2 := rfl
theorem b3_3 : blk 3 3 = Bk3_3 := rfl
theorem b3_4 : blk 3 4 = Bk3_4 := rfl
theorem b3_5 : blk 3 5 = Bk3_5 := rfl
theorem b3_6 : blk 3 6 = Bk3_6 := rfl
theorem b3_7 : blk 3 7 = Bk3_7 := rfl
theorem b3_8 : blk 3 8 = Bk3_8 := rfl
theorem b3_9 : blk 3 9 = Bk3_9 := rfl
theorem b3_10 : blk 3 10 = Bk3_10 := rfl
theorem b3_11 : blk 3 11 = Bk3_11 := rfl
theorem b3_12 : blk 3 12 = Bk3_12 := rfl
theorem mx4 : mxl 4 = 2 := rfl
theorem b4_0 : blk 4 0 = Bk4_0 := rfl
theorem b4_1 : blk 4 1 = Bk4_1 := rfl
theorem b4_2 : blk 4 2 = Bk4_2 := rfl
theorem mx5 : mxl 5 = 2 := rfl
theorem b5_0 : blk 5 0 = Bk5_0 := rfl
theorem mx6 : mxl 6 = 5 := rfl
theorem b6_0 : blk 6 0 = Bk6_0 := rfl
theorem b6_1 : blk 6 1 = Bk6_1 := rfl
theorem b6_2 : blk 6 2 = Bk6_2 := rfl
theorem mx7 : mxl 7 = 1 := rfl
theorem b7_0 : blk 7 0 = Bk7_0 := rfl
theorem b7_1 : blk 7 1 = Bk7_1 := rfl
theorem b7_2 : blk 7 2 = Bk7_2 := rfl
theorem mx8 : mxl 8 = 2 := rfl
theorem b8_0 : blk 8 0 = Bk8_0 := rfl
theorem b8_1 : blk 8 1 = Bk8_1 := rfl
theorem b8_2 : blk 8 2 = Bk8_2 := rfl
theorem mx9 : mxl 9 = 2 := rfl
theorem b9_0 : blk 9 0 = Bk9_0 := rfl
theorem b9_1 : blk 9 1 = Bk9_1 := rfl
theorem b9_2 : blk 9 2 = Bk9_2 := rfl
theorem mx10 : mxl 10 = 3 := rfl
theorem b10_0 : blk 10 0 = Bk10_0 := rfl
theorem b10_1 : blk 10 1 = Bk10_1 := rfl
theorem b10_2 : blk 10 2 = Bk10_2 := rfl
theorem b10_3 : blk 10 3 = Bk10_3 := rfl
theorem mx11 : mxl 11 = 7 := rfl
theorem b11_0 : blk 11 0 = Bk11_0 := rfl
theorem b11_1 : blk 11 1 = Bk11_1 := rfl
theorem b11_2 : blk 11 2 = Bk11_2 := rfl
theorem b11_3 : blk 11 3 = Bk11_3 := rfl
theorem b11_4 : blk 11 4 = Bk11_4 := rfl
theorem b11_5 : blk 11 5 = Bk11_5 := rfl
theorem b11_6 : blk 11 6 = Bk11_6 := rfl
theorem mx12 : mxl 12 = 5 := rfl
theorem b12_0 : blk 12 0 = Bk12_0 := rfl
theorem b12_1 : blk 12 1 = Bk12_1 := rfl
theorem b12_2 : blk 12 2 = Bk12_2 := rfl
theorem b12_3 : blk 12 3 = Bk12_3 := rfl
theorem b12_4 : blk 12 4 = Bk12_4 := rfl
theorem mx13 : mxl 13 = 2 := rfl
theorem b13_0 : blk 13 0 = Bk13_0 := rfl
theorem mx14 : mxl 14 = 1 := rfl
theorem b14_0 : blk 14 0 = Bk14_0 := rfl
theorem mx15 : mxl 15 = 2 := rfl
theorem b15_0 : blk 15 0 = Bk15_0 := rfl
theorem b15_1 : blk 15 1 = Bk15_1 := rfl
theorem mx16 : mxl 16 = 3 := rfl
theorem b16_0 : blk 16 0 = Bk16_0 := rfl
theorem b16_1 : blk 16 1 = Bk16_1 := rfl
theorem b16_2 : blk 16 2 = Bk16_2 := rfl
theorem b16_3 : blk 16 3 = Bk16_3 := rfl
theorem b16_4 : blk 16 4 = Bk16_4 := rfl
theorem b16_5 : blk 16 5 = Bk16_5 := rfl
theorem b16_6 : blk 16 6 = Bk16_6 := rfl
theorem b16_7 : blk 16 7 = Bk16_7 := rfl
theorem b16_8 : blk 16 8 = Bk16_8 := rfl
theorem b16_9 : blk 16 9 = Bk16_9 := rfl
theorem b16_10 : blk 16 10 = Bk16_10 := rfl
theorem b16_11 : blk 16 11 = Bk16_11 := rfl
theorem mx17 : mxl 17 = 3 := rfl
theorem b17_0 : blk 17 0 = Bk17_0 := rfl
theorem mx18 : mxl 18 = 3 := rfl
theorem b18_0 : blk 18 0 = Bk18_0 := rfl
theorem b18_1 : blk 18 1 = Bk18_1 := rfl
theorem b18_2 : blk 18 2 = Bk18_2 := rfl
theorem mx19 : mxl 19 = 3 := rfl
theorem b19_0 : blk 19 0 = Bk19_0 := rfl
theorem b19_1 : blk 19 1 = Bk19_1 := rfl
theorem b19_2 : blk 19 2 = Bk19_2 := rfl
theorem b19_3 : blk 19 3 = Bk19_3 := rfl
theorem mx20 : mxl 20 = 4 := rfl
theorem b20_0 : blk 20 0 = Bk20_0 := rfl
theorem b20_1 : blk 20 1 = Bk20_1 := rfl
theorem b20_2 : blk 20 2 = Bk20_2 := rfl
theorem b20_3 : blk 20 3 = Bk20_3 := rfl
theorem b20_4 : blk 20 4 = Bk20_4 := rfl
theorem mx21 : mxl 21 = 3 := rfl
theorem b21_0 : blk 21 0 = Bk21_0 := rfl
theorem b21_1 : blk 21 1 = Bk21_1 := rfl
theorem b21_2 : blk 21 2 = Bk21_2 := rfl
theorem mx22 : mxl 22 = 2 := rfl
theorem b22_0 : blk 22 0 = Bk22_0 := rfl
theorem b22_1 : blk 22 1 = Bk22_1 := rfl
theorem b22_2 : blk 22 2 = Bk22_2 := rfl
theorem b22_3 : blk 22 3 = Bk22_3 := rfl
theorem mx23 : mxl 23 = 4 := rfl
theorem b23_0 : blk 23 0 = Bk23_0 := rfl
theorem b23_1 : blk 23 1 = Bk23_1 := rfl
theorem mx24 : mxl 24 = 3 := rfl
theorem b24_0 : blk 24 0 = Bk24_0 := rfl
theorem b24_1 : blk 24 1 = Bk24_1 := rfl
theorem b24_2 : blk 24 2 = Bk24_2 := rfl
theorem b24_3 : blk 24 3 = Bk24_3 := rfl
theorem b24_4 : blk 24 4 = Bk24_4 := rfl
theorem b24_5 : blk 24 5 = Bk24_5 := rfl
theorem b24_6 : blk 24 6 = Bk24_6 := rfl
theorem b24_7 : blk 24 7 = Bk24_7 := rfl
theorem b24_8 : blk 24 8 = Bk24_8 := rfl
theorem b24_9 : blk 24 9 = Bk24_9 := rfl
theorem mx25 : mxl 25 = 5 := rfl
theorem b25_0 : blk 25 0 = Bk25_0 := rfl
theorem b25_1 : blk 25 1 = Bk25_1 := rfl
theorem b25_2 : blk 25 2 = Bk25_2 := rfl
theorem b25_3 : blk 25 3 = Bk25_3 := rfl
theorem b25_4 : blk 25 4 = Bk25_4 := rfl
theorem mx26 : mxl 26 = 1 := rfl
theorem b26_0 : blk 26 0 = Bk26_0 := rfl
theorem b26_1 : blk 26 1 = Bk26_1 := rfl
theorem b26_2 : blk 26 2 = Bk26_2 := rfl
theorem b26_3 : blk 26 3 = Bk26_3 := rfl
theorem b26_4 : blk 26 4 = Bk26_4 := rfl
theorem b26_5 : blk 26 5 = Bk26_5 := rfl
theorem b26_6 : blk 26 6 = Bk26_6 := rfl
theorem mx27 : mxl 27 = 1 := rfl
theorem b27_0 : blk 27 0 = Bk27_0 := rfl
theorem b27_1 : blk 27 1 = Bk27_1 := rfl
theorem b27_2 : blk 27 2 = Bk27_2 := rfl
theorem mx28 : mxl 28 = 1 := rfl
theorem b28_0 : blk 28 0 = Bk28_0 := rfl
theorem b28_1 : blk 28 1 = Bk28_1 := rfl
theorem b28_2 : blk 28 2 = Bk28_2 := rfl
theorem mx29 : mxl 29 = 3 := rfl
theorem b29_0 : blk 29 0 = Bk29_0 := rfl
theorem b29_1 : blk 29 1 = Bk29_1 := rfl
theorem b29_2 : blk 29 2 = Bk29_2 := rfl
theorem b29_3 : blk 29 3 = Bk29_3 := rfl
theorem b29_4 : blk 29 4 = Bk29_4 := rfl
theorem b29_5 : blk 29 5 = Bk29_5 := rfl
theorem b29_6 : blk 29 6 = Bk29_6 := rfl
theorem mx30 : mxl 30 = 3 := rfl
theorem b30_0 : blk 30 0 = Bk30_0 := rfl
theorem b30_1 : blk 30 1 = Bk30_1 := rfl
theorem b30_2 : blk 30 2 = Bk30_2 := rfl
theorem b30_3 : blk 30 3 = Bk30_3 := rfl
theorem b30_4 : blk 30 4 = Bk30_4 := rfl
theorem mx31 : mxl 31 = 3 := rfl
theorem b31_0 : blk 31 0 = Bk31_0 := rfl
theorem b31_1 : blk 31 1 = Bk31_1 := rfl
theorem b31_2 : blk 31 2 = Bk31_2 := rfl
theorem b31_3 : blk 31 3 = Bk31_3 := rfl
theorem b31_4 : blk 31 4 = Bk31_4 := rfl
theorem mx32 : mxl 32 = 2 := rfl
theorem b32_0 : blk 32 0 = Bk32_0 := rfl
theorem b32_1 : blk 32 1 = Bk32_1 := rfl
theorem b32_2 : blk 32 2 = Bk32_2 := rfl
theorem b32_3 : blk 32 3 = Bk32_3 := rfl
theorem b32_4 : blk 32 4 = Bk32_4 := rfl
theorem b32_5 : blk 32 5 = Bk32_5 := rfl
theorem b32_6 : blk 32 6 = Bk32_6 := rfl
theorem mx33 : mxl 33 = 4 := rfl
theorem b33_0 : blk 33 0 = Bk33_0 := rfl
theorem b33_1 : blk 33 1 = Bk33_1 := rfl
theorem b33_2 : blk 33 2 = Bk33_2 := rfl
theorem b33_3 : blk 33 3 = Bk33_3 := rfl
theorem b33_4 : blk 33 4 = Bk33_4 := rfl
theorem mx34 : mxl 34 = 1 := rfl
theorem b34_0 : blk 34 0 = Bk34_0 := rfl
theorem b34_1 : blk 34 1 = Bk34_1 := rfl
theorem b34_2 : blk 34 2 = Bk34_2 := rfl
theorem mx35 : mxl 35 = 1 := rfl
theorem b35_0 : blk 35 0 = Bk35_0 := rfl
theorem b35_1 : blk 35 1 = Bk35_1 := rfl
theorem b35_2 : blk 35 2 = Bk35_2 := rfl
theorem mx36 : mxl 36 = 1 := rfl
theorem b36_0 : blk 36 0 = Bk36_0 := rfl
theorem b36_1 : blk 36 1 = Bk36_1 := rfl
theorem b36_2 : blk 36 2 = Bk36_2 := rfl
theorem mx37 : mxl 37 = 2 := rfl
theorem b37_0 : blk 37 0 = Bk37_0 := rfl
theorem b37_1 : blk 37 1 = Bk37_1 := rfl
theorem b37_2 : blk 37 2 = Bk37_2 := rfl
theorem mx38 : mxl 38 = 3 := rfl
theorem b38_0 : blk 38 0 = Bk38_0 := rfl
theorem b38_1 : blk 38 1 = Bk38_1 := rfl
theorem b38_2 : blk 38 2 = Bk38_2 := rfl
theorem b38_3 : blk 38 3 = Bk38_3 := rfl
theorem b38_4 : blk 38 4 = Bk38_4 := rfl
theorem mx39 : mxl 39 = 1 := rfl
theorem b39_0 : blk 39 0 = Bk39_0 := rfl
theorem mx40 : mxl 40 = 1 := rfl
theorem b40_0 : blk 40 0 = Bk40_0 := rfl
theorem mx41 : mxl 41 = 3 := rfl
theorem b41_0 : blk 41 0 = Bk41_0 := rfl
theorem b41_1 : blk 41 1 = Bk41_1 := rfl
theorem b41_2 : blk 41 2 = Bk41_2 := rfl
theorem mx42 : mxl 42 = 2 := rfl
theorem b42_0 : blk 42 0 = Bk42_0 := rfl
theorem b42_1 : blk 42 1 = Bk42_1 := rfl
theorem mx43 : mxl 43 = 2 := rfl
theorem b43_0 : blk 43 0 = Bk43_0 := rfl
theorem b43_1 : blk 43 1 = Bk43_1 := rfl
theorem mx44 : mxl 44 = 4 := rfl
theorem b44_0 : blk 44 0 = Bk44_0 := rfl
theorem b44_1 : blk 44 1 = Bk44_1 := rfl
theorem b44_2 : blk 44 2 = Bk44_2 := rfl
theorem b44_3 : blk 44 3 = Bk44_3 := rfl
theorem mx45 : mxl 45 = 12 := rfl
theorem b45_0 : blk 45 0 = Bk45_0 := rfl
theorem b45_1 : blk 45 1 = Bk45_1 := rfl
theorem b45_2 : blk 45 2 = Bk45_2 := rfl
theorem b45_3 : blk 45 3 = Bk45_3 := rfl
theorem b45_4 : blk 45 4 = Bk45_4 := rfl
theorem b45_5 : blk 45 5 = Bk45_5 := rfl
theorem b45_6 : blk 45 6 = Bk45_6 := rfl
theorem b45_7 : blk 45 7 = Bk45_7 := rfl
theorem b45_8 : blk 45 8 = Bk45_8 := rfl
theorem b45_9 : blk 45 9 = Bk45_9 := rfl
theorem b45_10 : blk 45 10 = Bk45_10 := rfl
theorem b45_11 : blk 45 11 = Bk45_11 := rfl
theorem mx46 : mxl 46 = 4 := rfl
theorem b46_0 : blk 46 0 = Bk46_0 := rfl
theorem b46_1 : blk 46 1 = Bk46_1 := rfl
theorem b46_2 : blk 46 2 = Bk46_2 := rfl
theorem b46_3 : blk 46 3 = Bk46_3 := rfl
theorem b46_4 : blk 46 4 = Bk46_4 := rfl
theorem b46_5 : blk 46 5 = Bk46_5 := rfl
theorem mx47 : mxl 47 = 1 := rfl
theorem b47_0 : blk 47 0 = Bk47_0 := rfl
theorem mx48 : mxl 48 = 2 := rfl
theorem b48_0 : blk 48 0 = Bk48_0 := rfl
theorem mx49 : mxl 49 = 9 := rfl
theorem b49_0 : blk 49 0 = Bk49_0 := rfl
theorem b49_1 : blk 49 1 = Bk49_1 := rfl
theorem b49_2 : blk 49 2 = Bk49_2 := rfl
theorem b49_3 : blk 49 3 = Bk49_3 := rfl
theorem b49_4 : blk 49 4 = Bk49_4 := rfl
theorem b49_5 : blk 49 5 = Bk49_5 := rfl
theorem b49_6 : blk 49 6 = Bk49_6 := rfl
theorem b49_7 : blk 49 7 = Bk49_7 := rfl
theorem b49_8 : blk 49 8 = Bk49_8 := rfl
theorem b49_9 : blk 49 9 = Bk49_9 := rfl
theorem b49_10 : blk 49 10 = Bk49_10 := rfl
theorem b49_11 : blk 49 11 = Bk49_11 := rfl
theorem b49_12 : blk 49 12 = Bk49_12 := rfl
theorem mx50 : mxl 50 = 4 := rfl
theorem b50_0 : blk 50 0 = Bk50_0 := rfl
theorem b50_1 : blk 50 1 = Bk50_1 := rfl
theorem mx51 : mxl 51 = 1 := rfl
theorem b51_0 : blk 51 0 = Bk51_0 := rfl
theorem mx52 : mxl 52 = 11 := rfl
theorem b52_0 : blk 52 0 = Bk52_0 := rfl
theorem b52_1 : blk 52 1 = Bk52_1 := rfl
theorem b52_2 : blk 52 2 = Bk52_2 := rfl
theorem b52_3 : blk 52 3 = Bk52_3 := rfl
theorem b52_4 : blk 52 4 = Bk52_4 := rfl
theorem b52_5 : blk 52 5 = Bk52_5 := rfl
theorem b52_6 : blk 52 6 = Bk52_6 := rfl
theorem b52_7 : blk 52 7 = Bk52_7 := rfl
theorem b52_8 : blk 52 8 = Bk52_8 := rfl
theorem b52_9 : blk 52 9 = Bk52_9 := rfl
theorem b52_10 : blk 52 10 = Bk52_10 := rfl
theorem mx53 : mxl 53 = 3 := rfl
theorem b53_0 : blk 53 0 = Bk53_0 := rfl
theorem b53_1 : blk 53 1 = Bk53_1 := rfl
theorem b53_2 : blk 53 2 = Bk53_2 := rfl
theorem mx54 : mxl 54 = 5 := rfl
theorem b54_0 : blk 54 0 = Bk54_0 := rfl
theorem b54_1 : blk 54 1 = Bk54_1 := rfl
theorem b54_2 : blk 54 2 = Bk54_2 := rfl
theorem mx55 : mxl 55 = 4 := rfl
theorem b55_0 : blk 55 0 = Bk55_0 := rfl
theorem mx56 : mxl 56 = 1 := rfl
theorem b56_0 : blk 56 0 = Bk56_0 := rfl
theorem mx57 : mxl 57 = 2 := rfl
theorem b57_0 : blk 57 0 = Bk57_0 := rfl
theorem b57_1 : blk 57 1 = Bk57_1 := rfl
theorem b57_2 : blk 57 2 = Bk57_2 := rfl
theorem mx58 : mxl 58 = 2 := rfl
theorem b58_0 : blk 58 0 = Bk58_0 := rfl
theorem b58_1 : blk 58 1 = Bk58_1 := rfl
theorem b58_2 : blk 58 2 = Bk58_2 := rfl
theorem b58_3 : blk 58 3 = Bk58_3 := rfl
theorem mx59 : mxl 59 = 5 := rfl
theorem b59_0 : blk 59 0 = Bk59_0 := rfl
theorem mx60 : mxl 60 = 4 := rfl
theorem b60_0 : blk 60 0 = Bk60_0 := rfl
theorem mx61 : mxl 61 = 3 := rfl
theorem b61_0 : blk 61 0 = Bk61_0 := rfl
theorem b61_1 : blk 61 1 = Bk61_1 := rfl
theorem b61_2 : blk 61 2 = Bk61_2 := rfl
theorem b61_3 : blk 61 3 = Bk61_3 := rfl
theorem b61_4 : blk 61 4 = Bk61_4 := rfl
theorem b61_5 : blk 61 5 = Bk61_5 := rfl
theorem mx62 : mxl 62 = 2 := rfl
theorem b62_0 : blk 62 0 = Bk62_0 := rfl
theorem b62_1 : blk 62 1 = Bk62_1 := rfl
theorem b62_2 : blk 62 2 = Bk62_2 := rfl
theorem b62_3 : blk 62 3 = Bk62_3 := rfl
theorem b62_4 : blk 62 4 = Bk62_4 := rfl
theorem mx63 : mxl 63 = 5 := rfl
theorem b63_0 : blk 63 0 = Bk63_0 := rfl
theorem b63_1 : blk 63 1 = Bk63_1 := rfl
theorem b63_2 : blk 63 2 = Bk63_2 := rfl
theorem b63_3 : blk 63 3 = Bk63_3 := rfl
theorem mx64 : mxl 64 = 6 := rfl
theorem b64_0 : blk 64 0 = Bk64_0 := rfl
theorem b64_1 : blk 64 1 = Bk64_1 := rfl
theorem b64_2 : blk 64 2 = Bk64_2 := rfl
theorem mx65 : mxl 65 = 6 := rfl
theorem b65_0 : blk 65 0 = Bk65_0 := rfl
theorem b65_1 : blk 65 1 = Bk65_1 := rfl
theorem b65_2 : blk 65 2 = Bk65_2 := rfl
theorem b65_3 : blk 65 3 = Bk65_3 := rfl
theorem b65_4 : blk 65 4 = Bk65_4 := rfl
theorem b65_5 : blk 65 5 = Bk65_5 := rfl
theorem b65_6 : blk 65 6 = Bk65_6 := rfl
theorem mx66 : mxl 66 = 5 := rfl
theorem b66_0 : blk 66 0 = Bk66_0 := rfl
theorem b66_1 : blk 66 1 = Bk66_1 := rfl
theorem b66_2 : blk 66 2 = Bk66_2 := rfl
theorem b66_3 : blk 66 3 = Bk66_3 := rfl
theorem b66_4 : blk 66 4 = Bk66_4 := rfl
theorem mx67 : mxl 67 = 3 := rfl
theorem b67_0 : blk 67 0 = Bk67_0 := rfl
theorem b67_1 : blk 67 1 = Bk67_1 := rfl
theorem mx68 : mxl 68 = 4 := rfl
theorem b68_0 : blk 68 0 = Bk68_0 := rfl
theorem b68_1 : blk 68 1 = Bk68_1 := rfl
theorem b68_2 : blk 68 2 = Bk68_2 := rfl
theorem b68_3 : blk 68 3 = Bk68_3 := rfl
theorem b68_4 : blk 68 4 = Bk68_4 := rfl
theorem b68_5 : blk 68 5 = Bk68_5 := rfl
theorem b68_6 : blk 68 6 = Bk68_6 := rfl
theorem b68_7 : blk 68 7 = Bk68_7 := rfl
theorem b68_8 : blk 68 8 = Bk68_8 := rfl
theorem b68_9 : blk 68 9 = Bk68_9 := rfl
theorem b68_10 : blk 68 10 = Bk68_10 := rfl
theorem b68_11 : blk 68 11 = Bk68_11 := rfl
theorem b68_12 : blk 68 12 = Bk68_12 := rfl
theorem mx69 : mxl 69 = 2 := rfl
theorem b69_0 : blk 69 0 = Bk69_0 := rfl
theorem b69_1 : blk 69 1 = Bk69_1 := rfl
theorem b69_2 : blk 69 2 = Bk69_2 := rfl
theorem b69_3 : blk 69 3 = Bk69_3 := rfl
theorem b69_4 : blk 69 4 = Bk69_4 := rfl
theorem mx70 : mxl 70 = 3 := rfl
theorem b70_0 : blk 70 0 = Bk70_0 := rfl
theorem b70_1 : blk 70 1 = Bk70_1 := rfl
theorem b70_2 : blk 70 2 = Bk70_2 := rfl
theorem b70_3 : blk 70 3 = Bk70_3 := rfl
theorem b70_4 : blk 70 4 = Bk70_4 := rfl
theorem b70_5 : blk 70 5 = Bk70_5 := rfl
theorem mx71 : mxl 71 = 2 := rfl
theorem b71_0 : blk 71 0 = Bk71_0 := rfl
theorem mx72 : mxl 72 = 4 := rfl
theorem b72_0 : blk 72 0 = Bk72_0 := rfl
theorem b72_1 : blk 72 1 = Bk72_1 := rfl
theorem b72_2 : blk 72 2 = Bk72_2 := rfl
theorem b72_3 : blk 72 3 = Bk72_3 := rfl
theorem b72_4 : blk 72 4 = Bk72_4 := rfl
theorem b72_5 : blk 72 5 = Bk72_5 := rfl
theorem b72_6 : blk 72 6 = Bk72_6 := rfl
theorem mx73 : mxl 73 = 5 := rfl
theorem b73_0 : blk 73 0 = Bk73_0 := rfl
theorem b73_1 : blk 73 1 = Bk73_1 := rfl
theorem b73_2 : blk 73 2 = Bk73_2 := rfl
theorem b73_3 : blk 73 3 = Bk73_3 := rfl
theorem mx74 : mxl 74 = 5 := rfl
theorem b74_0 : blk 74 0 = Bk74_0 := rfl
theorem b74_1 : blk 74 1 = Bk74_1 := rfl
theorem b74_2 : blk 74 2 = Bk74_2 := rfl
theorem b74_3 : blk 74 3 = Bk74_3 := rfl
theorem b74_4 : blk 74 4 = Bk74_4 := rfl
theorem mx75 : mxl 75 = 5 := rfl
theorem b75_0 : blk 75 0 = Bk75_0 := rfl
theorem b75_1 : blk 75 1 = Bk75_1 := rfl
theorem b75_2 : blk 75 2 = Bk75_2 := rfl
theorem b75_3 : blk 75 3 = Bk75_3 := rfl
theorem mx76 : mxl 76 = 3 := rfl
theorem b76_0 : blk 76 0 = Bk76_0 := rfl
theorem b76_1 : blk 76 1 = Bk76_1 := rfl
theorem b76_2 : blk 76 2 = Bk76_2 := rfl
theorem b76_3 : blk 76 3 = Bk76_3 := rfl
theorem b76_4 : blk 76 4 = Bk76_4 := rfl
theorem mx77 : mxl 77 = 6 := rfl
theorem b77_0 : blk 77 0 = Bk77_0 := rfl
theorem b77_1 : blk 77 1 = Bk77_1 := rfl
theorem b77_2 : blk 77 2 = Bk77_2 := rfl
theorem b77_3 : blk 77 3 = Bk77_3 := rfl
theorem b77_4 : blk 77 4 = Bk77_4 := rfl
theorem b77_5 : blk 77 5 = Bk77_5 := rfl
theorem b77_6 : blk 77 6 = Bk77_6 := rfl
theorem mx78 : mxl 78 = 4 := rfl
theorem b78_0 : blk 78 0 = Bk78_0 := rfl
theorem b78_1 : blk 78 1 = Bk78_1 := rfl
theorem b78_2 : blk 78 2 = Bk78_2 := rfl
theorem b78_3 : blk 78 3 = Bk78_3 := rfl
theorem b78_4 : blk 78 4 = Bk78_4 := rfl
theorem b78_5 : blk 78 5 = Bk78_5 := rfl
theorem mx79 : mxl 79 = 5 := rfl
theorem b79_0 : blk 79 0 = Bk79_0 := rfl
theorem b79_1 : blk 79 1 = Bk79_1 := rfl
theorem b79_2 : blk 79 2 = Bk79_2 := rfl
theorem b79_3 : blk 79 3 = Bk79_3 := rfl
theorem b79_4 : blk 79 4 = Bk79_4 := rfl
theorem mx80 : mxl 80 = 4 := rfl
theorem b80_0 : blk 80 0 = Bk80_0 := rfl
theorem b80_1 : blk 80 1 = Bk80_1 := rfl
theorem b80_2 : blk 80 2 = Bk80_2 := rfl
theorem b80_3 : blk 80 3 = Bk80_3 := rfl
theorem b80_4 : blk 80 4 = Bk80_4 := rfl
theorem b80_5 : blk 80 5 = Bk80_5 := rfl
theorem b80_6 : blk 80 6 = Bk80_6 := rfl
theorem b80_7 : blk 80 7 = Bk80_7 := rfl
theorem mx81 : mxl 81 = 2 := rfl
theorem b81_0 : blk 81 0 = Bk81_0 := rfl
theorem b81_1 : blk 81 1 = Bk81_1 := rfl
theorem b81_2 : blk 81 2 = Bk81_2 := rfl
theorem mx82 : mxl 82 = 3 := rfl
theorem b82_0 : blk 82 0 = Bk82_0 := rfl
theorem b82_1 : blk 82 1 = Bk82_1 := rfl
theorem b82_2 : blk 82 2 = Bk82_2 := rfl
theorem b82_3 : blk 82 3 = Bk82_3 := rfl
theorem mx83 : mxl 83 = 4 := rfl
theorem b83_0 : blk 83 0 = Bk83_0 := rfl
theorem b83_1 : blk 83 1 = Bk83_1 := rfl
theorem b83_2 : blk 83 2 = Bk83_2 := rfl
theorem b83_3 : blk 83 3 = Bk83_3 := rfl
theorem b83_4 : blk 83 4 = Bk83_4 := rfl
theorem b83_5 : blk 83 5 = Bk83_5 := rfl
theorem b83_6 : blk 83 6 = Bk83_6 := rfl
theorem b83_7 : blk 83 7 = Bk83_7 := rfl
theorem b83_8 : blk 83 8 = Bk83_8 := rfl
theorem b83_9 : blk 83 9 = Bk83_9 := rfl
theorem b83_10 : blk 83 10 = Bk83_10 := rfl
theorem b83_11 : blk 83 11 = Bk83_11 := rfl
theorem b83_12 : blk 83 12 = Bk83_12 := rfl
theorem mx84 : mxl 84 = 5 := rfl
theorem b84_0 : blk 84 0 = Bk84_0 := rfl
theorem b84_1 : blk 84 1 = Bk84_1 := rfl
theorem b84_2 : blk 84 2 = Bk84_2 := rfl
theorem b84_3 : blk 84 3 = Bk84_3 := rfl
theorem b84_4 : blk 84 4 = Bk84_4 := rfl
theorem b84_5 : blk 84 5 = Bk84_5 := rfl
theorem b84_6 : blk 84 6 = Bk84_6 := rfl
theorem b84_7 : blk 84 7 = Bk84_7 := rfl
theorem b84_8 : blk 84 8 = Bk84_8 := rfl
theorem mx85 : mxl 85 = 3 := rfl
theorem b85_0 : blk 85 0 = Bk85_0 := rfl
theorem b85_1 : blk 85 1 = Bk85_1 := rfl
theorem b85_2 : blk 85 2 = Bk85_2 := rfl
theorem b85_3 : blk 85 3 = Bk85_3 := rfl
theorem b85_4 : blk 85 4 = Bk85_4 := rfl
theorem mx86 : mxl 86 = 2 := rfl
theorem b86_0 : blk 86 0 = Bk86_0 := rfl
theorem b86_1 : blk 86 1 = Bk86_1 := rfl
theorem b86_2 : blk 86 2 = Bk86_2 := rfl
theorem mx87 : mxl 87 = 5 := rfl
theorem b87_0 : blk 87 0 = Bk87_0 := rfl
theorem b87_1 : blk 87 1 = Bk87_1 := rfl
theorem b87_2 : blk 87 2 = Bk87_2 := rfl
theorem b87_3 : blk 87 3 = Bk87_3 := rfl
theorem b87_4 : blk 87 4 = Bk87_4 := rfl
theorem mx88 : mxl 88 = 3 := rfl
theorem b88_0 : blk 88 0 = Bk88_0 := rfl
theorem b88_1 : blk 88 1 = Bk88_1 := rfl
theorem b88_2 : blk 88 2 = Bk88_2 := rfl
theorem mx89 : mxl 89 = 2 := rfl
theorem b89_0 : blk 89 0 = Bk89_0 := rfl
theorem b89_1 : blk 89 1 = Bk89_1 := rfl
theorem b89_2 : blk 89 2 = Bk89_2 := rfl
theorem b89_3 : blk 89 3 = Bk89_3 := rfl
theorem mx90 : mxl 90 = 3 := rfl
theorem b90_0 : blk 90 0 = Bk90_0 := rfl
theorem b90_1 : blk 90 1 = Bk90_1 := rfl
theorem b90_2 : blk 90 2 = Bk90_2 := rfl
theorem b90_3 : blk 90 3 = Bk90_3 := rfl
theorem b90_4 : blk 90 4 = Bk90_4 := rfl
theorem mx91 : mxl 91 = 4 := rfl
theorem b91_0 : blk 91 0 = Bk91_0 := rfl
theorem b91_1 : blk 91 1 = Bk91_1 := rfl
theorem b91_2 : blk 91 2 = Bk91_2 := rfl
theorem b91_3 : blk 91 3 = Bk91_3 := rfl
theorem b91_4 : blk 91 4 = Bk91_4 := rfl
theorem b91_5 : blk 91 5 = Bk91_5 := rfl
theorem mx92 : mxl 92 = 6 := rfl
theorem b92_0 : blk 92 0 = Bk92_0 := rfl
theorem b92_1 : blk 92 1 = Bk92_1 := rfl
theorem b92_2 : blk 92 2 = Bk92_2 := rfl
theorem b92_3 : blk 92 3 = Bk92_3 := rfl
theorem b92_4 : blk 92 4 = Bk92_4 := rfl
theorem b92_5 : blk 92 5 = Bk92_5 := rfl
theorem b92_6 : blk 92 6 = Bk92_6 := rfl
theorem b92_7 : blk 92 7 = Bk92_7 := rfl
theorem b92_8 : blk 92 8 = Bk92_8 := rfl
theorem b92_9 : blk 92 9 = Bk92_9 := rfl
theorem b92_10 : blk 92 10 = Bk92_10 := rfl
theorem b92_11 : blk 92 11 = Bk92_11 := rfl
theorem b92_12 : blk 92 12 = Bk92_12 := rfl
theorem b92_13 : blk 92 13 = Bk92_13 := rfl
theorem b92_14 : blk 92 14 = Bk92_14 := rfl
theorem b92_15 : blk 92 15 = Bk92_15 := rfl
theorem b92_16 : blk 92 16 = Bk92_16 := rfl
theorem b92_17 : blk 92 17 = Bk92_17 := rfl
theorem b92_18 : blk 92 18 = Bk92_18 := rfl
theorem b92_19 : blk 92 19 = Bk92_19 := rfl
theorem b92_20 : blk 92 20 = Bk92_20 := rfl
theorem b92_21 : blk 92 21 = Bk92_21 := rfl
theorem mx93 : mxl 93 = 3 := rfl
theorem b93_0 : blk 93 0 = Bk93_0 := rfl
theorem b93_1 : blk 93 1 = Bk93_1 := rfl
theorem b93_2 : blk 93 2 = Bk93_2 := rfl
theorem mx94 : mxl 94 = 6 := rfl
theorem b94_0 : blk 94 0 = Bk94_0 := rfl
theorem b94_1 : blk 94 1 = Bk94_1 := rfl
theorem b94_2 : blk 94 2 = Bk94_2 := rfl
theorem b94_3 : blk 94 3 = Bk94_3 := rfl
theorem b94_4 : blk 94 4 = Bk94_4 := rfl
theorem b94_5 : blk 94 5 = Bk94_5 := rfl
theorem b94_6 : blk 94 6 = Bk94_6 := rfl
theorem mx95 : mxl 95 = 5 := rfl
theorem b95_0 : blk 95 0 = Bk95_0 := rfl
theorem b95_1 : blk 95 1 = Bk95_1 := rfl
theorem b95_2 : blk 95 2 = Bk95_2 := rfl
theorem b95_3 : blk 95 3 = Bk95_3 := rfl
theorem b95_4 : blk 95 4 = Bk95_4 := rfl
theorem b95_5 : blk 95 5 = Bk95_5 := rfl
theorem mx96 : mxl 96 = 8 := rfl
theorem b96_0 : blk 96 0 = Bk96_0 := rfl
theorem b96_1 : blk 96 1 = Bk96_1 := rfl
theorem b96_2 : blk 96 2 = Bk96_2 := rfl
theorem b96_3 : blk 96 3 = Bk96_3 := rfl
theorem b96_4 : blk 96 4 = Bk96_4 := rfl
theorem mx97 : mxl 97 = 2 := rfl
theorem b97_0 : blk 97 0 = Bk97_0 := rfl
theorem b97_1 : blk 97 1 = Bk97_1 := rfl
theorem b97_2 : blk 97 2 = Bk97_2 := rfl
theorem b97_3 : blk 97 3 = Bk97_3 := rfl
theorem mx98 : mxl 98 = 3 := rfl
theorem b98_0 : blk 98 0 = Bk98_0 := rfl
theorem b98_1 : blk 98 1 = Bk98_1 := rfl
theorem b98_2 : blk 98 2 = Bk98_2 := rfl
theorem b98_3 : blk 98 3 = Bk98_3 := rfl
theorem b98_4 : blk 98 4 = Bk98_4 := rfl
theorem mx99 : mxl 99 = 5 := rfl
theorem b99_0 : blk 99 0 = Bk99_0 := rfl
theorem b99_1 : blk 99 1 = Bk99_1 := rfl
theorem b99_2 : blk 99 2 = Bk99_2 := rfl
theorem b99_3 : blk 99 3 = Bk99_3 := rfl
theorem b99_4 : blk 99 4 = Bk99_4 := rfl
theorem mx100 : mxl 100 = 5 := rfl
theorem b100_0 : blk 100 0 = Bk100_0 := rfl
theorem b100_1 : blk 100 1 = Bk100_1 := rfl
theorem b100_2 : blk 100 2 = Bk100_2 := rfl
theorem b100_3 : blk 100 3 = Bk100_3 := rfl
theorem b100_4 : blk 100 4 = Bk100_4 := rfl
theorem b100_5 : blk 100 5 = Bk100_5 := rfl
theorem b100_6 : blk 100 6 = Bk100_6 := rfl
theorem mx101 : mxl 101 = 5 := rfl
theorem b101_0 : blk 101 0 = Bk101_0 := rfl
theorem b101_1 : blk 101 1 = Bk101_1 := rfl
theorem b101_2 : blk 101 2 = Bk101_2 := rfl
theorem b101_3 : blk 101 3 = Bk101_3 := rfl
theorem mx102 : mxl 102 = 6 := rfl
theorem b102_0 : blk 102 0 = Bk102_0 := rfl
theorem b102_1 : blk 102 1 = Bk102_1 := rfl
theorem b102_2 : blk 102 2 = Bk102_2 := rfl
theorem b102_3 : blk 102 3 = Bk102_3 := rfl
theorem b102_4 : blk 102 4 = Bk102_4 := rfl
theorem b102_5 : blk 102 5 = Bk102_5 := rfl
theorem b102_6 : blk 102 6 = Bk102_6 := rfl
theorem mx103 : mxl 103 = 10 := rfl
theorem b103_0 : blk 103 0 = Bk103_0 := rfl
theorem b103_1 : blk 103 1 = Bk103_1 := rfl
theorem b103_2 : blk 103 2 = Bk103_2 := rfl
theorem b103_3 : blk 103 3 = Bk103_3 := rfl
theorem b103_4 : blk 103 4 = Bk103_4 := rfl
theorem b103_5 : blk 103 5 = Bk103_5 := rfl
theorem b103_6 : blk 103 6 = Bk103_6 := rfl
theorem b103_7 : blk 103 7 = Bk103_7 := rfl
theorem b103_8 : blk 103 8 = Bk103_8 := rfl
theorem mx104 : mxl 104 = 2 := rfl
theorem b104_0 : blk 104 0 = Bk104_0 := rfl
theorem b104_1 : blk 104 1 = Bk104_1 := rfl
theorem b104_2 : blk 104 2 = Bk104_2 := rfl
theorem b104_3 : blk 104 3 = Bk104_3 := rfl
theorem b104_4 : blk 104 4 = Bk104_4 := rfl
theorem b104_5 : blk 104 5 = Bk104_5 := rfl
theorem b104_6 : blk 104 6 = Bk104_6 := rfl
theorem b104_7 : blk 104 7 = Bk104_7 := rfl
theorem b104_8 : blk 104 8 = Bk104_8 := rfl
theorem b104_9 : blk 104 9 = Bk104_9 := rfl
theorem b104_10 : blk 104 10 = Bk104_10 := rfl
theorem b104_11 : blk 104 11 = Bk104_11 := rfl
theorem b104_12 : blk 104 12 = Bk104_12 := rfl
theorem b104_13 : blk 104 13 = Bk104_13 := rfl
theorem mx105 : mxl 105 = 5 := rfl
theorem b105_0 : blk 105 0 = Bk105_0 := rfl
theorem b105_1 : blk 105 1 = Bk105_1 := rfl
theorem b105_2 : blk 105 2 = Bk105_2 := rfl
theorem mx106 : mxl 106 = 2 := rfl
theorem b106_0 : blk 106 0 = Bk106_0 := rfl
theorem b106_1 : blk 106 1 = Bk106_1 := rfl
theorem b106_2 : blk 106 2 = Bk106_2 := rfl
theorem b106_3 : blk 106 3 = Bk106_3 := rfl
theorem mx107 : mxl 107 = 4 := rfl
theorem b107_0 : blk 107 0 = Bk107_0 := rfl
theorem b107_1 : blk 107 1 = Bk107_1 := rfl
theorem b107_2 : blk 107 2 = Bk107_2 := rfl
theorem b107_3 : blk 107 3 = Bk107_3 := rfl
theorem b107_4 : blk 107 4 = Bk107_4 := rfl
theorem b107_5 : blk 107 5 = Bk107_5 := rfl
theorem b107_6 : blk 107 6 = Bk107_6 := rfl
theorem b107_7 : blk 107 7 = Bk107_7 := rfl
theorem b107_8 : blk 107 8 = Bk107_8 := rfl
theorem b107_9 : blk 107 9 = Bk107_9 := rfl
theorem b107_10 : blk 107 10 = Bk107_10 := rfl
theorem b107_11 : blk 107 11 = Bk107_11 := rfl
theorem b107_12 : blk 107 12 = Bk107_12 := rfl
theorem b107_13 : blk 107 13 = Bk107_13 := rfl
theorem b107_14 : blk 107 14 = Bk107_14 := rfl
theorem b107_15 : blk 107 15 = Bk107_15 := rfl
theorem b107_16 : blk 107 16 = Bk107_16 := rfl
theorem mx108 : mxl 108 = 1 := rfl
theorem b108_0 : blk 108 0 = Bk108_0 := rfl
theorem mx109 : mxl 109 = 3 := rfl
theorem b109_0 : blk 109 0 = Bk109_0 := rfl
theorem b109_1 : blk 109 1 = Bk109_1 := rfl
theorem b109_2 : blk 109 2 = Bk109_2 := rfl
theorem b109_3 : blk 109 3 = Bk109_3 := rfl
theorem mx110 : mxl 110 = 4 := rfl
theorem b110_0 : blk 110 0 = Bk110_0 := rfl
theorem b110_1 : blk 110 1 = Bk110_1 := rfl
theorem b110_2 : blk 110 2 = Bk110_2 := rfl
theorem b110_3 : blk 110 3 = Bk110_3 := rfl
theorem b110_4 : blk 110 4 = Bk110_4 := rfl
theorem b110_5 : blk 110 5 = Bk110_5 := rfl
theorem b110_6 : blk 110 6 = Bk110_6 := rfl
theorem mx111 : mxl 111 = 6 := rfl
theorem b111_0 : blk 111 0 = Bk111_0 := rfl
theorem b111_1 : blk 111 1 = Bk111_1 := rfl
theorem b111_2 : blk 111 2 = Bk111_2 := rfl
theorem b111_3 : blk 111 3 = Bk111_3 := rfl
theorem b111_4 : blk 111 4 = Bk111_4 := rfl
theorem b111_5 : blk 111 5 = Bk111_5 := rfl
theorem b111_6 : blk 111 6 = Bk111_6 := rfl
theorem b111_7 : blk 111 7 = Bk111_7 := rfl
theorem b111_8 : blk 111 8 = Bk111_8 := rfl
theorem mx112 : mxl 112 = 2 := rfl
theorem b112_0 : blk 112 0 = Bk112_0 := rfl
theorem b112_1 : blk 112 1 = Bk112_1 := rfl
theorem b112_2 : blk 112 2 = Bk112_2 := rfl
theorem b112_3 : blk 112 3 = Bk112_3 := rfl
theorem mx113 : mxl 113 = 2 := rfl
theorem b113_0 : blk 113 0 = Bk113_0 := rfl
theorem mx114 : mxl 114 = 2 := rfl
theorem b114_0 : blk 114 0 = Bk114_0 := rfl
theorem mx115 : mxl 115 = 2 := rfl
theorem b115_0 : blk 115 0 = Bk115_0 := rfl
theorem b115_1 : blk 115 1 = Bk115_1 := rfl
theorem b115_2 : blk 115 2 = Bk115_2 := rfl
theorem b115_3 : blk 115 3 = Bk115_3 := rfl
theorem mx116 : mxl 116 = 2 := rfl
theorem b116_0 : blk 116 0 = Bk116_0 := rfl
theorem b116_1 : blk 116 1 = Bk116_1 := rfl
theorem b116_2 : blk 116 2 = Bk116_2 := rfl
theorem b116_3 : blk 116 3 = Bk116_3 := rfl
theorem mx117 : mxl 117 = 2 := rfl
theorem b117_0 : blk 117 0 = Bk117_0 := rfl
theorem b117_1 : blk 117 1 = Bk117_1 := rfl
theorem b117_2 : blk 117 2 = Bk117_2 := rfl
theorem b117_3 : blk 117 3 = Bk117_3 := rfl
theorem mx118 : mxl 118 = 2 := rfl
theorem b118_0 : blk 118 0 = Bk118_0 := rfl
theorem b118_1 : blk 118 1 = Bk118_1 := rfl
theorem b118_2 : blk 118 2 = Bk118_2 := rfl
theorem b118_3 : blk 118 3 = Bk118_3 := rfl
theorem mx119 : mxl 119 = 2 := rfl
theorem b119_0 : blk 119 0 = Bk119_0 := rfl
theorem b119_1 : blk 119 1 = Bk119_1 := rfl
theorem b119_2 : blk 119 2 = Bk119_2 := rfl
theorem b119_3 : blk 119 3 = Bk119_3 := rfl
theorem mx120 : mxl 120 = 2 := rfl
theorem b120_0 : blk 120 0 = Bk120_0 := rfl
theorem b120_1 : blk 120 1 = Bk120_1 := rfl
theorem b120_2 : blk 120 2 = Bk120_2 := rfl
theorem b120_3 : blk 120 3 = Bk120_3 := rfl
theorem mx121 : mxl 121 = 3 := rfl
theorem b121_0 : blk 121 0 = Bk121_0 := rfl
theorem b121_1 : blk 121 1 = Bk121_1 := rfl
theorem b121_2 : blk 121 2 = Bk121_2 := rfl
theorem mx122 : mxl 122 = 2 := rfl
theorem b122_0 : blk 122 0 = Bk122_0 := rfl
theorem b122_1 : blk 122 1 = Bk122_1 := rfl
theorem b122_2 : blk 122 2 = Bk122_2 := rfl
theorem mx123 : mxl 123 = 4 := rfl
theorem b123_0 : blk 123 0 = Bk123_0 := rfl
theorem b123_1 : blk 123 1 = Bk123_1 := rfl
theorem b123_2 : blk 123 2 = Bk123_2 := rfl
theorem b123_3 : blk 123 3 = Bk123_3 := rfl
theorem b123_4 : blk 123 4 = Bk123_4 := rfl
theorem mx124 : mxl 124 = 1 := rfl
theorem b124_0 : blk 124 0 = Bk124_0 := rfl
theorem b124_1 : blk 124 1 = Bk124_1 := rfl
theorem b124_2 : blk 124 2 = Bk124_2 := rfl
theorem mx125 : mxl 125 = 6 := rfl
theorem b125_0 : blk 125 0 = Bk125_0 := rfl
theorem b125_1 : blk 125 1 = Bk125_1 := rfl
theorem b125_2 : blk 125 2 = Bk125_2 := rfl
theorem mx126 : mxl 126 = 2 := rfl
theorem b126_0 : blk 126 0 = Bk126_0 := rfl
theorem b126_1 : blk 126 1 = Bk126_1 := rfl
theorem b126_2 : blk 126 2 = Bk126_2 := rfl
theorem b126_3 : blk 126 3 = Bk126_3 := rfl
theorem b126_4 : blk 126 4 = Bk126_4 := rfl
theorem mx127 : mxl 127 = 3 := rfl
theorem b127_0 : blk 127 0 = Bk127_0 := rfl
theorem b127_1 : blk 127 1 = Bk127_1 := rfl
theorem b127_2 : blk 127 2 = Bk127_2 := rfl
theorem mx128 : mxl 128 = 2 := rfl
theorem b128_0 : blk 128 0 = Bk128_0 := rfl
theorem mx129 : mxl 129 = 2 := rfl
theorem b129_0 : blk 129 0 = Bk129_0 := rfl
theorem mx130 : mxl 130 = 2 := rfl
theorem b130_0 : blk 130 0 = Bk130_0 := rfl
theorem mx131 : mxl 131 = 2 := rfl
theorem b131_0 : blk 131 0 = Bk131_0 := rfl
theorem mx132 : mxl 132 = 2 := rfl
theorem b132_0 : blk 132 0 = Bk132_0 := rfl
theorem mx133 : mxl 133 = 2 := rfl
theorem b133_0 : blk 133 0 = Bk133_0 := rfl
theorem mx134 : mxl 134 = 2 := rfl
theorem b134_0 : blk 134 0 = Bk134_0 := rfl
theorem mx135 : mxl 135 = 5 := rfl
theorem b135_0 : blk 135 0 = Bk135_0 := rfl
theorem b135_1 : blk 135 1 = Bk135_1 := rfl
theorem b135_2 : blk 135 2 = Bk135_2 := rfl
theorem b135_3 : blk 135 3 = Bk135_3 := rfl
theorem mx136 : mxl 136 = 5 := rfl
theorem b136_0 : blk 136 0 = Bk136_0 := rfl
theorem b136_1 : blk 136 1 = Bk136_1 := rfl
theorem b136_2 : blk 136 2 = Bk136_2 := rfl
theorem mx137 : mxl 137 = 4 := rfl
theorem b137_0 : blk 137 0 = Bk137_0 := rfl
theorem b137_1 : blk 137 1 = Bk137_1 := rfl
theorem b137_2 : blk 137 2 = Bk137_2 := rfl
theorem mx138 : mxl 138 = 3 := rfl
theorem b138_0 : blk 138 0 = Bk138_0 := rfl
theorem b138_1 : blk 138 1 = Bk138_1 := rfl
theorem b138_2 : blk 138 2 = Bk138_2 := rfl
theorem b138_3 : blk 138 3 = Bk138_3 := rfl
theorem b138_4 : blk 138 4 = Bk138_4 := rfl
theorem mx139 : mxl 139 = 5 := rfl
theorem b139_0 : blk 139 0 = Bk139_0 := rfl
theorem b139_1 : blk 139 1 = Bk139_1 := rfl
theorem b139_2 : blk 139 2 = Bk139_2 := rfl
theorem b139_3 : blk 139 3 = Bk139_3 := rfl
theorem b139_4 : blk 139 4 = Bk139_4 := rfl
theorem mx140 : mxl 140 = 3 := rfl
theorem b140_0 : blk 140 0 = Bk140_0 := rfl
theorem b140_1 : blk 140 1 = Bk140_1 := rfl
theorem mx141 : mxl 141 = 5 := rfl
theorem b141_0 : blk 141 0 = Bk141_0 := rfl
theorem b141_1 : blk 141 1 = Bk141_1 := rfl
theorem b141_2 : blk 141 2 = Bk141_2 := rfl
theorem b141_3 : blk 141 3 = Bk141_3 := rfl
theorem b141_4 : blk 141 4 = Bk141_4 := rfl
theorem b141_5 : blk 141 5 = Bk141_5 := rfl
theorem b141_6 : blk 141 6 = Bk141_6 := rfl
theorem b141_7 : blk 141 7 = Bk141_7 := rfl
theorem mx142 : mxl 142 = 5 := rfl
theorem b142_0 : blk 142 0 = Bk142_0 := rfl
theorem b142_1 : blk 142 1 = Bk142_1 := rfl
theorem b142_2 : blk 142 2 = Bk142_2 := rfl
theorem b142_3 : blk 142 3 = Bk142_3 := rfl
theorem b142_4 : blk 142 4 = Bk142_4 := rfl
theorem b142_5 : blk 142 5 = Bk142_5 := rfl
theorem mx143 : mxl 143 = 4 := rfl
theorem b143_0 : blk 143 0 = Bk143_0 := rfl
theorem b143_1 : blk 143 1 = Bk143_1 := rfl
theorem b143_2 : blk 143 2 = Bk143_2 := rfl
theorem b143_3 : blk 143 3 = Bk143_3 := rfl
theorem b143_4 : blk 143 4 = Bk143_4 := rfl
theorem mx144 : mxl 144 = 2 := rfl
theorem b144_0 : blk 144 0 = Bk144_0 := rfl
theorem b144_1 : blk 144 1 = Bk144_1 := rfl
theorem b144_2 : blk 144 2 = Bk144_2 := rfl
theorem mx145 : mxl 145 = 5 := rfl
theorem b145_0 : blk 145 0 = Bk145_0 := rfl
theorem b145_1 : blk 145 1 = Bk145_1 := rfl
theorem b145_2 : blk 145 2 = Bk145_2 := rfl
theorem b145_3 : blk 145 3 = Bk145_3 := rfl
theorem b145_4 : blk 145 4 = Bk145_4 := rfl
theorem mx146 : mxl 146 = 2 := rfl
theorem b146_0 : blk 146 0 = Bk146_0 := rfl
theorem b146_1 : blk 146 1 = Bk146_1 := rfl
theorem b146_2 : blk 146 2 = Bk146_2 := rfl
theorem mx147 : mxl 147 = 1 := rfl
theorem b147_0 : blk 147 0 = Bk147_0 := rfl
theorem mx148 : mxl 148 = 1 := rfl
theorem b148_0 : blk 148 0 = Bk148_0 := rfl
theorem mx149 : mxl 149 = 1 := rfl
theorem b149_0 : blk 149 0 = Bk149_0 := rfl
theorem b149_1 : blk 149 1 = Bk149_1 := rfl
theorem mx150 : mxl 150 = 2 := rfl
theorem b150_0 : blk 150 0 = Bk150_0 := rfl
theorem b150_1 : blk 150 1 = Bk150_1 := rfl
theorem b150_2 : blk 150 2 = Bk150_2 := rfl
theorem b150_3 : blk 150 3 = Bk150_3 := rfl
theorem b150_4 : blk 150 4 = Bk150_4 := rfl
theorem b150_5 : blk 150 5 = Bk150_5 := rfl
theorem b150_6 : blk 150 6 = Bk150_6 := rfl
theorem mx151 : mxl 151 = 1 := rfl
theorem b151_0 : blk 151 0 = Bk151_0 := rfl
theorem b151_1 : blk 151 1 = Bk151_1 := rfl
theorem b151_2 : blk 151 2 = Bk151_2 := rfl
theorem b151_3 : blk 151 3 = Bk151_3 := rfl
theorem b151_4 : blk 151 4 = Bk151_4 := rfl
theorem b151_5 : blk 151 5 = Bk151_5 := rfl
theorem mx152 : mxl 152 = 3 := rfl
theorem b152_0 : blk 152 0 = Bk152_0 := rfl
theorem mx153 : mxl 153 = 3 := rfl
theorem b153_0 : blk 153 0 = Bk153_0 := rfl
theorem mx154 : mxl 154 = 3 := rfl
theorem b154_0 : blk 154 0 = Bk154_0 := rfl
theorem b154_1 : blk 154 1 = Bk154_1 := rfl
theorem b154_2 : blk 154 2 = Bk154_2 := rfl
theorem b154_3 : blk 154 3 = Bk154_3 := rfl
theorem b154_4 : blk 154 4 = Bk154_4 := rfl
theorem b154_5 : blk 154 5 = Bk154_5 := rfl
theorem b154_6 : blk 154 6 = Bk154_6 := rfl
theorem b154_7 : blk 154 7 = Bk154_7 := rfl
theorem b154_8 : blk 154 8 = Bk154_8 := rfl
theorem b154_9 : blk 154 9 = Bk154_9 := rfl
theorem b154_10 : blk 154 10 = Bk154_10 := rfl
theorem b154_11 : blk 154 11 = Bk154_11 := rfl
theorem b154_12 : blk 154 12 = Bk154_12 := rfl
theorem b154_13 : blk 154 13 = Bk154_13 := rfl
theorem b154_14 : blk 154 14 = Bk154_14 := rfl
theorem b154_15 : blk 154 15 = Bk154_15 := rfl
theorem b154_16 : blk 154 16 = Bk154_16 := rfl
theorem b154_17 : blk 154 17 = Bk154_17 := rfl
theorem b154_18 : blk 154 18 = Bk154_18 := rfl
theorem mx155 : mxl 155 = 3 := rfl
theorem b155_0 : blk 155 0 = Bk155_0 := rfl
theorem b155_1 : blk 155 1 = Bk155_1 := rfl
theorem b155_2 : blk 155 2 = Bk155_2 := rfl
theorem b155_3 : blk 155 3 = Bk155_3 := rfl
theorem b155_4 : blk 155 4 = Bk155_4 := rfl
theorem b155_5 : blk 155 5 = Bk155_5 := rfl
theorem b155_6 : blk 155 6 = Bk155_6 := rfl
theorem b155_7 : blk 155 7 = Bk155_7 := rfl
theorem mx156 : mxl 156 = 2 := rfl
theorem b156_0 : blk 156 0 = Bk156_0 := rfl
theorem b156_1 : blk 156 1 = Bk156_1 := rfl
theorem b156_2 : blk 156 2 = Bk156_2 := rfl
theorem mx157 : mxl 157 = 2 := rfl
theorem b157_0 : blk 157 0 = Bk157_0 := rfl
theorem b157_1 : blk 157 1 = Bk157_1 := rfl
theorem b157_2 : blk 157 2 = Bk157_2 := rfl
theorem mx158 : mxl 158 = 2 := rfl
theorem b158_0 : blk 158 0 = Bk158_0 := rfl
theorem b158_1 : blk 158 1 = Bk158_1 := rfl
theorem b158_2 : blk 158 2 = Bk158_2 := rfl
theorem mx159 : mxl 159 = 4 := rfl
theorem b159_0 : blk 159 0 = Bk159_0 := rfl
theorem mx160 : mxl 160 = 1 := rfl
theorem b160_0 : blk 160 0 = Bk160_0 := rfl
theorem b160_1 : blk 160 1 = Bk160_1 := rfl
theorem b160_2 : blk 160 2 = Bk160_2 := rfl
theorem mx161 : mxl 161 = 1 := rfl
theorem b161_0 : blk 161 0 = Bk161_0 := rfl
theorem b161_1 : blk 161 1 = Bk161_1 := rfl
theorem b161_2 : blk 161 2 = Bk161_2 := rfl
theorem mx162 : mxl 162 = 1 := rfl
theorem b162_0 : blk 162 0 = Bk162_0 := rfl
theorem b162_1 : blk 162 1 = Bk162_1 := rfl
theorem b162_2 : blk 162 2 = Bk162_2 := rfl
theorem b162_3 : blk 162 3 = Bk162_3 := rfl
theorem b162_4 : blk 162 4 = Bk162_4 := rfl
theorem mx163 : mxl 163 = 4 := rfl
theorem b163_0 : blk 163 0 = Bk163_0 := rfl
theorem b163_1 : blk 163 1 = Bk163_1 := rfl
theorem b163_2 : blk 163 2 = Bk163_2 := rfl
theorem b163_3 : blk 163 3 = Bk163_3 := rfl
theorem b163_4 : blk 163 4 = Bk163_4 := rfl
theorem b163_5 : blk 163 5 = Bk163_5 := rfl
theorem b163_6 : blk 163 6 = Bk163_6 := rfl
theorem b163_7 : blk 163 7 = Bk163_7 := rfl
theorem b163_8 : blk 163 8 = Bk163_8 := rfl
theorem mx164 : mxl 164 = 1 := rfl
theorem b164_0 : blk 164 0 = Bk164_0 := rfl
theorem b164_1 : blk 164 1 = Bk164_1 := rfl
theorem b164_2 : blk 164 2 = Bk164_2 := rfl
theorem b164_3 : blk 164 3 = Bk164_3 := rfl
theorem b164_4 : blk 164 4 = Bk164_4 := rfl
theorem mx165 : mxl 165 = 3 := rfl
theorem b165_0 : blk 165 0 = Bk165_0 := rfl
theorem b165_1 : blk 165 1 = Bk165_1 := rfl
theorem b165_2 : blk 165 2 = Bk165_2 := rfl
theorem b165_3 : blk 165 3 = Bk165_3 := rfl
theorem b165_4 : blk 165 4 = Bk165_4 := rfl
theorem b165_5 : blk 165 5 = Bk165_5 := rfl
theorem b165_6 : blk 165 6 = Bk165_6 := rfl
theorem b165_7 : blk 165 7 = Bk165_7 := rfl
theorem b165_8 : blk 165 8 = Bk165_8 := rfl
theorem b165_9 : blk 165 9 = Bk165_9 := rfl
theorem mx166 : mxl 166 = 2 := rfl
theorem b166_0 : blk 166 0 = Bk166_0 := rfl
theorem b166_1 : blk 166 1 = Bk166_1 := rfl
theorem b166_2 : blk 166 2 = Bk166_2 := rfl
theorem b166_3 : blk 166 3 = Bk166_3 := rfl
theorem mx167 : mxl 167 = 3 := rfl
theorem b167_0 : blk 167 0 = Bk167_0 := rfl
theorem b167_1 : blk 167 1 = Bk167_1 := rfl
theorem b167_2 : blk 167 2 = Bk167_2 := rfl
theorem b167_3 : blk 167 3 = Bk167_3 := rfl
theorem b167_4 : blk 167 4 = Bk167_4 := rfl
theorem b167_5 : blk 167 5 = Bk167_5 := rfl
theorem b167_6 : blk 167 6 = Bk167_6 := rfl
theorem mx168 : mxl 168 = 3 := rfl
theorem b168_0 : blk 168 0 = Bk168_0 := rfl
theorem b168_1 : blk 168 1 = Bk168_1 := rfl
theorem b168_2 : blk 168 2 = Bk168_2 := rfl
theorem b168_3 : blk 168 3 = Bk168_3 := rfl
theorem b168_4 : blk 168 4 = Bk168_4 := rfl
theorem mx169 : mxl 169 = 4 := rfl
theorem b169_0 : blk 169 0 = Bk169_0 := rfl
theorem b169_1 : blk 169 1 = Bk169_1 := rfl
theorem b169_2 : blk 169 2 = Bk169_2 := rfl
theorem b169_3 : blk 169 3 = Bk169_3 := rfl
theorem b169_4 : blk 169 4 = Bk169_4 := rfl
theorem mx170 : mxl 170 = 10 := rfl
theorem b170_0 : blk 170 0 = Bk170_0 := rfl
theorem b170_1 : blk 170 1 = Bk170_1 := rfl
theorem b170_2 : blk 170 2 = Bk170_2 := rfl
theorem b170_3 : blk 170 3 = Bk170_3 := rfl
theorem b170_4 : blk 170 4 = Bk170_4 := rfl
theorem b170_5 : blk 170 5 = Bk170_5 := rfl
theorem b170_6 : blk 170 6 = Bk170_6 := rfl
theorem b170_7 : blk 170 7 = Bk170_7 := rfl
theorem b170_8 : blk 170 8 = Bk170_8 := rfl
theorem b170_9 : blk 170 9 = Bk170_9 := rfl
theorem b170_10 : blk 170 10 = Bk170_10 := rfl
theorem b170_11 : blk 170 11 = Bk170_11 := rfl
theorem b170_12 : blk 170 12 = Bk170_12 := rfl
theorem b170_13 : blk 170 13 = Bk170_13 := rfl
theorem b170_14 : blk 170 14 = Bk170_14 := rfl
theorem b170_15 : blk 170 15 = Bk170_15 := rfl
theorem b170_16 : blk 170 16 = Bk170_16 := rfl
theorem b170_17 : blk 170 17 = Bk170_17 := rfl
theorem mx171 : mxl 171 = 3 := rfl
theorem b171_0 : blk 171 0 = Bk171_0 := rfl
theorem b171_1 : blk 171 1 = Bk171_1 := rfl
theorem b171_2 : blk 171 2 = Bk171_2 := rfl
theorem b171_3 : blk 171 3 = Bk171_3 := rfl
theorem mx172 : mxl 172 = 6 := rfl
theorem b172_0 : blk 172 0 = Bk172_0 := rfl
theorem b172_1 : blk 172 1 = Bk172_1 := rfl
theorem b172_2 : blk 172 2 = Bk172_2 := rfl
theorem b172_3 : blk 172 3 = Bk172_3 := rfl
theorem b172_4 : blk 172 4 = Bk172_4 := rfl
theorem b172_5 : blk 172 5 = Bk172_5 := rfl
theorem b172_6 : blk 172 6 = Bk172_6 := rfl
theorem b172_7 : blk 172 7 = Bk172_7 := rfl
theorem b172_8 : blk 172 8 = Bk172_8 := rfl
theorem b172_9 : blk 172 9 = Bk172_9 := rfl
theorem b172_10 : blk 172 10 = Bk172_10 := rfl
theorem b172_11 : blk 172 11 = Bk172_11 := rfl
theorem mx173 : mxl 173 = 4 := rfl
theorem b173_0 : blk 173 0 = Bk173_0 := rfl
theorem b173_1 : blk 173 1 = Bk173_1 := rfl
theorem b173_2 : blk 173 2 = Bk173_2 := rfl
theorem b173_3 : blk 173 3 = Bk173_3 := rfl
theorem b173_4 : blk 173 4 = Bk173_4 := rfl
theorem b173_5 : blk 173 5 = Bk173_5 := rfl
theorem mx174 : mxl 174 = 4 := rfl
theorem b174_0 : blk 174 0 = Bk174_0 := rfl
theorem b174_1 : blk 174 1 = Bk174_1 := rfl
theorem b174_2 : blk 174 2 = Bk174_2 := rfl
theorem b174_3 : blk 174 3 = Bk174_3 := rfl
theorem b174_4 : blk 174 4 = Bk174_4 := rfl
theorem b174_5 : blk 174 5 = Bk174_5 := rfl
theorem b174_6 : blk 174 6 = Bk174_6 := rfl
theorem b174_7 : blk 174 7 = Bk174_7 := rfl
theorem b174_8 : blk 174 8 = Bk174_8 := rfl
theorem b174_9 : blk 174 9 = Bk174_9 := rfl
theorem b174_10 : blk 174 10 = Bk174_10 := rfl
theorem b174_11 : blk 174 11 = Bk174_11 := rfl
theorem mx175 : mxl 175 = 2 := rfl
theorem b175_0 : blk 175 0 = Bk175_0 := rfl
theorem b175_1 : blk 175 1 = Bk175_1 := rfl
theorem b175_2 : blk 175 2 = Bk175_2 := rfl
theorem mx176 : mxl 176 = 3 := rfl
theorem b176_0 : blk 176 0 = Bk176_0 := rfl
theorem b176_1 : blk 176 1 = Bk176_1 := rfl
theorem b176_2 : blk 176 2 = Bk176_2 := rfl
theorem b176_3 : blk 176 3 = Bk176_3 := rfl
theorem b176_4 : blk 176 4 = Bk176_4 := rfl
theorem mx177 : mxl 177 = 3 := rfl
theorem b177_0 : blk 177 0 = Bk177_0 := rfl
theorem b177_1 : blk 177 1 = Bk177_1 := rfl
theorem b177_2 : blk 177 2 = Bk177_2 := rfl
theorem b177_3 : blk 177 3 = Bk177_3 := rfl
theorem b177_4 : blk 177 4 = Bk177_4 := rfl
theorem mx178 : mxl 178 = 3 := rfl
theorem b178_0 : blk 178 0 = Bk178_0 := rfl
theorem b178_1 : blk 178 1 = Bk178_1 := rfl
theorem b178_2 : blk 178 2 = Bk178_2 := rfl
theorem b178_3 : blk 178 3 = Bk178_3 := rfl
theorem b178_4 : blk 178 4 = Bk178_4 := rfl
theorem mx179 : mxl 179 = 2 := rfl
theorem b179_0 : blk 179 0 = Bk179_0 := rfl
theorem b179_1 : blk 179 1 = Bk179_1 := rfl
theorem b179_2 : blk 179 2 = Bk179_2 := rfl
theorem b179_3 : blk 179 3 = Bk179_3 := rfl
theorem mx180 : mxl 180 = 5 := rfl
theorem b180_0 : blk 180 0 = Bk180_0 := rfl
theorem b180_1 : blk 180 1 = Bk180_1 := rfl
theorem b180_2 : blk 180 2 = Bk180_2 := rfl
theorem b180_3 : blk 180 3 = Bk180_3 := rfl
theorem b180_4 : blk 180 4 = Bk180_4 := rfl
theorem b180_5 : blk 180 5 = Bk180_5 := rfl
theorem b180_6 : blk 180 6 = Bk180_6 := rfl
theorem b180_7 : blk 180 7 = Bk180_7 := rfl
theorem b180_8 : blk 180 8 = Bk180_8 := rfl
theorem mx181 : mxl 181 = 4 := rfl
theorem b181_0 : blk 181 0 = Bk181_0 := rfl
theorem b181_1 : blk 181 1 = Bk181_1 := rfl
theorem b181_2 : blk 181 2 = Bk181_2 := rfl
theorem b181_3 : blk 181 3 = Bk181_3 := rfl
theorem b181_4 : blk 181 4 = Bk181_4 := rfl
theorem b181_5 : blk 181 5 = Bk181_5 := rfl
theorem b181_6 : blk 181 6 = Bk181_6 := rfl
theorem mx182 : mxl 182 = 7 := rfl
theorem b182_0 : blk 182 0 = Bk182_0 := rfl
theorem b182_1 : blk 182 1 = Bk182_1 := rfl
theorem b182_2 : blk 182 2 = Bk182_2 := rfl
theorem b182_3 : blk 182 3 = Bk182_3 := rfl
theorem b182_4 : blk 182 4 = Bk182_4 := rfl
theorem b182_5 : blk 182 5 = Bk182_5 := rfl
theorem b182_6 : blk 182 6 = Bk182_6 := rfl
theorem b182_7 : blk 182 7 = Bk182_7 := rfl
theorem mx183 : mxl 183 = 5 := rfl
theorem b183_0 : blk 183 0 = Bk183_0 := rfl
theorem b183_1 : blk 183 1 = Bk183_1 := rfl
theorem b183_2 : blk 183 2 = Bk183_2 := rfl
theorem b183_3 : blk 183 3 = Bk183_3 := rfl
theorem b183_4 : blk 183 4 = Bk183_4 := rfl
theorem b183_5 : blk 183 5 = Bk183_5 := rfl
theorem b183_6 : blk 183 6 = Bk183_6 := rfl
theorem mx184 : mxl 184 = 1 := rfl
theorem b184_0 : blk 184 0 = Bk184_0 := rfl
theorem b184_1 : blk 184 1 = Bk184_1 := rfl
theorem b184_2 : blk 184 2 = Bk184_2 := rfl
theorem mx185 : mxl 185 = 4 := rfl
theorem b185_0 : blk 185 0 = Bk185_0 := rfl
theorem mx186 : mxl 186 = 6 := rfl
theorem b186_0 : blk 186 0 = Bk186_0 := rfl
theorem b186_1 : blk 186 1 = Bk186_1 := rfl
theorem b186_2 : blk 186 2 = Bk186_2 := rfl
theorem b186_3 : blk 186 3 = Bk186_3 := rfl
theorem b186_4 : blk 186 4 = Bk186_4 := rfl
theorem b186_5 : blk 186 5 = Bk186_5 := rfl
theorem b186_6 : blk 186 6 = Bk186_6 := rfl
theorem b186_7 : blk 186 7 = Bk186_7 := rfl
theorem b186_8 : blk 186 8 = Bk186_8 := rfl
theorem b186_9 : blk 186 9 = Bk186_9 := rfl
theorem b186_10 : blk 186 10 = Bk186_10 := rfl
theorem b186_11 : blk 186 11 = Bk186_11 := rfl
theorem mx187 : mxl 187 = 4 := rfl
theorem b187_0 : blk 187 0 = Bk187_0 := rfl
theorem b187_1 : blk 187 1 = Bk187_1 := rfl
theorem b187_2 : blk 187 2 = Bk187_2 := rfl
theorem mx188 : mxl 188 = 4 := rfl
theorem b188_0 : blk 188 0 = Bk188_0 := rfl
theorem b188_1 : blk 188 1 = Bk188_1 := rfl
theorem b188_2 : blk 188 2 = Bk188_2 := rfl
theorem mx189 : mxl 189 = 3 := rfl
theorem b189_0 : blk 189 0 = Bk189_0 := rfl
theorem b189_1 : blk 189 1 = Bk189_1 := rfl
theorem b189_2 : blk 189 2 = Bk189_2 := rfl
theorem b189_3 : blk 189 3 = Bk189_3 := rfl
theorem b189_4 : blk 189 4 = Bk189_4 := rfl
theorem b189_5 : blk 189 5 = Bk189_5 := rfl
theorem b189_6 : blk 189 6 = Bk189_6 := rfl
theorem b189_7 : blk 189 7 = Bk189_7 := rfl
theorem b189_8 : blk 189 8 = Bk189_8 := rfl
theorem b189_9 : blk 189 9 = Bk189_9 := rfl
theorem b189_10 : blk 189 10 = Bk189_10 := rfl
theorem mx190 : mxl 190 = 2 := rfl
theorem b190_0 : blk 190 0 = Bk190_0 := rfl
theorem b190_1 : blk 190 1 = Bk190_1 := rfl
theorem b190_2 : blk 190 2 = Bk190_2 := rfl
theorem b190_3 : blk 190 3 = Bk190_3 := rfl
theorem b190_4 : blk 190 4 = Bk190_4 := rfl
theorem mx191 : mxl 191 = 3 := rfl
theorem b191_0 : blk 191 0 = Bk191_0 := rfl
theorem b191_1 : blk 191 1 = Bk191_1 := rfl
theorem b191_2 : blk 191 2 = Bk191_2 := rfl
theorem b191_3 : blk 191 3 = Bk191_3 := rfl
theorem mx192 : mxl 192 = 5 := rfl
theorem b192_0 : blk 192 0 = Bk192_0 := rfl
theorem b192_1 : blk 192 1 = Bk192_1 := rfl
theorem b192_2 : blk 192 2 = Bk192_2 := rfl
theorem b192_3 : blk 192 3 = Bk192_3 := rfl
theorem b192_4 : blk 192 4 = Bk192_4 := rfl
theorem b192_5 : blk 192 5 = Bk192_5 := rfl
theorem b192_6 : blk 192 6 = Bk192_6 := rfl
theorem b192_7 : blk 192 7 = Bk192_7 := rfl
theorem mx193 : mxl 193 = 3 := rfl
theorem b193_0 : blk 193 0 = Bk193_0 := rfl
theorem b193_1 : blk 193 1 = Bk193_1 := rfl
theorem b193_2 : blk 193 2 = Bk193_2 := rfl
theorem b193_3 : blk 193 3 = Bk193_3 := rfl
theorem b193_4 : blk 193 4 = Bk193_4 := rfl
theorem b193_5 : blk 193 5 = Bk193_5 := rfl
theorem b193_6 : blk 193 6 = Bk193_6 := rfl
theorem b193_7 : blk 193 7 = Bk193_7 := rfl
theorem b193_8 : blk 193 8 = Bk193_8 := rfl
theorem b193_9 : blk 193 9 = Bk193_9 := rfl
theorem b193_10 : blk 193 10 = Bk193_10 := rfl
theorem b193_11 : blk 193 11 = Bk193_11 := rfl
theorem b193_12 : blk 193 12 = Bk193_12 := rfl
theorem mx194 : mxl 194 = 3 := rfl
theorem b194_0 : blk 194 0 = Bk194_0 := rfl
theorem b194_1 : blk 194 1 = Bk194_1 := rfl
theorem b194_2 : blk 194 2 = Bk194_2 := rfl
theorem b194_3 : blk 194 3 = Bk194_3 := rfl
theorem b194_4 : blk 194 4 = Bk194_4 := rfl
theorem b194_5 : blk 194 5 = Bk194_5 := rfl
theorem b194_6 : blk 194 6 = Bk194_6 := rfl
theorem b194_7 : blk 194 7 = Bk194_7 := rfl
theorem b194_8 : blk 194 8 = Bk194_8 := rfl
theorem b194_9 : blk 194 9 = Bk194_9 := rfl
theorem b194_10 : blk 194 10 = Bk194_10 := rfl
theorem b194_11 : blk 194 11 = Bk194_11 := rfl
theorem b194_12 : blk 194 12 = Bk194_12 := rfl
theorem mx195 : mxl 195 = 5 := rfl
theorem b195_0 : blk 195 0 = Bk195_0 := rfl
theorem b195_1 : blk 195 1 = Bk195_1 := rfl
theorem b195_2 : blk 195 2 = Bk195_2 := rfl
theorem b195_3 : blk 195 3 = Bk195_3 := rfl
theorem b195_4 : blk 195 4 = Bk195_4 := rfl
theorem b195_5 : blk 195 5 = Bk195_5 := rfl
theorem b195_6 : blk 195 6 = Bk195_6 := rfl
theorem b195_7 : blk 195 7 = Bk195_7 := rfl
theorem b195_8 : blk 195 8 = Bk195_8 := rfl
theorem mx196 : mxl 196 = 4 := rfl
theorem b196_0 : blk 196 0 = Bk196_0 := rfl
theorem b196_1 : blk 196 1 = Bk196_1 := rfl
theorem b196_2 : blk 196 2 = Bk196_2 := rfl
theorem b196_3 : blk 196 3 = Bk196_3 := rfl
theorem b196_4 : blk 196 4 = Bk196_4 := rfl
theorem b196_5 : blk 196 5 = Bk196_5 := rfl
theorem b196_6 : blk 196 6 = Bk196_6 := rfl
theorem b196_7 : blk 196 7 = Bk196_7 := rfl
theorem b196_8 : blk 196 8 = Bk196_8 := rfl
theorem b196_9 : blk 196 9 = Bk196_9 := rfl
theorem b196_10 : blk 196 10 = Bk196_10 := rfl
theorem b196_11 : blk 196 11 = Bk196_11 := rfl
theorem b196_12 : blk 196 12 = Bk196_12 := rfl
theorem b196_13 : blk 196 13 = Bk196_13 := rfl
theorem b196_14 : blk 196 14 = Bk196_14 := rfl
theorem b196_15 : blk 196 15 = Bk196_15 := rfl
theorem b196_16 : blk 196 16 = Bk196_16 := rfl
theorem b196_17 : blk 196 17 = Bk196_17 := rfl
theorem b196_18 : blk 196 18 = Bk196_18 := rfl
theorem mx197 : mxl 197 = 3 := rfl
theorem b197_0 : blk 197 0 = Bk197_0 := rfl
theorem b197_1 : blk 197 1 = Bk197_1 := rfl
theorem b197_2 : blk 197 2 = Bk197_2 := rfl
theorem mx198 : mxl 198 = 5 := rfl
theorem b198_0 : blk 198 0 = Bk198_0 := rfl
theorem b198_1 : blk 198 1 = Bk198_1 := rfl
theorem b198_2 : blk 198 2 = Bk198_2 := rfl
theorem b198_3 : blk 198 3 = Bk198_3 := rfl
theorem b198_4 : blk 198 4 = Bk198_4 := rfl
theorem b198_5 : blk 198 5 = Bk198_5 := rfl
theorem b198_6 : blk 198 6 = Bk198_6 := rfl
theorem b198_7 : blk 198 7 = Bk198_7 := rfl
theorem mx199 : mxl 199 = 5 := rfl
theorem b199_0 : blk 199 0 = Bk199_0 := rfl
theorem b199_1 : blk 199 1 = Bk199_1 := rfl
theorem b199_2 : blk 199 2 = Bk199_2 := rfl
theorem mx200 : mxl 200 = 11 := rfl
theorem b200_0 : blk 200 0 = Bk200_0 := rfl
theorem b200_1 : blk 200 1 = Bk200_1 := rfl
theorem b200_2 : blk 200 2 = Bk200_2 := rfl
theorem b200_3 : blk 200 3 = Bk200_3 := rfl
theorem b200_4 : blk 200 4 = Bk200_4 := rfl
theorem b200_5 : blk 200 5 = Bk200_5 := rfl
theorem b200_6 : blk 200 6 = Bk200_6 := rfl
theorem b200_7 : blk 200 7 = Bk200_7 := rfl
theorem b200_8 : blk 200 8 = Bk200_8 := rfl
theorem b200_9 : blk 200 9 = Bk200_9 := rfl
theorem b200_10 : blk 200 10 = Bk200_10 := rfl
theorem b200_11 : blk 200 11 = Bk200_11 := rfl
theorem b200_12 : blk 200 12 = Bk200_12 := rfl
theorem b200_13 : blk 200 13 = Bk200_13 := rfl
theorem b200_14 : blk 200 14 = Bk200_14 := rfl
theorem b200_15 : blk 200 15 = Bk200_15 := rfl
theorem b200_16 : blk 200 16 = Bk200_16 := rfl
theorem mx201 : mxl 201 = 3 := rfl
theorem b201_0 : blk 201 0 = Bk201_0 := rfl
theorem b201_1 : blk 201 1 = Bk201_1 := rfl
theorem b201_2 : blk 201 2 = Bk201_2 := rfl
theorem mx202 : mxl 202 = 2 := rfl
theorem b202_0 : blk 202 0 = Bk202_0 := rfl
theorem b202_1 : blk 202 1 = Bk202_1 := rfl
theorem b202_2 : blk 202 2 = Bk202_2 := rfl
theorem b202_3 : blk 202 3 = Bk202_3 := rfl
theorem b202_4 : blk 202 4 = Bk202_4 := rfl
theorem b202_5 : blk 202 5 = Bk202_5 := rfl
theorem b202_6 : blk 202 6 = Bk202_6 := rfl
theorem b202_7 : blk 202 7 = Bk202_7 := rfl
theorem b202_8 : blk 202 8 = Bk202_8 := rfl
theorem b202_9 : blk 202 9 = Bk202_9 := rfl
theorem b202_10 : blk 202 10 = Bk202_10 := rfl
theorem b202_11 : blk 202 11 = Bk202_11 := rfl
theorem b202_12 : blk 202 12 = Bk202_12 := rfl
theorem b202_13 : blk 202 13 = Bk202_13 := rfl
theorem mx203 : mxl 203 = 2 := rfl
theorem b203_0 : blk 203 0 = Bk203_0 := rfl
theorem b203_1 : blk 203 1 = Bk203_1 := rfl
theorem mx204 : mxl 204 = 3 := rfl
theorem b204_0 : blk 204 0 = Bk204_0 := rfl
theorem mx205 : mxl 205 = 3 := rfl
theorem b205_0 : blk 205 0 = Bk205_0 := rfl
theorem b205_1 : blk 205 1 = Bk205_1 := rfl
theorem mx206 : mxl 206 = 3 := rfl
theorem b206_0 : blk 206 0 = Bk206_0 := rfl
theorem mx207 : mxl 207 = 4 := rfl
theorem b207_0 : blk 207 0 = Bk207_0 := rfl
theorem mx208 : mxl 208 = 4 := rfl
theorem b208_0 : blk 208 0 = Bk208_0 := rfl
theorem b208_1 : blk 208 1 = Bk208_1 := rfl
theorem b208_2 : blk 208 2 = Bk208_2 := rfl
theorem b208_3 : blk 208 3 = Bk208_3 := rfl
theorem mx209 : mxl 209 = 4 := rfl
theorem b209_0 : blk 209 0 = Bk209_0 := rfl
theorem b209_1 : blk 209 1 = Bk209_1 := rfl
theorem b209_2 : blk 209 2 = Bk209_2 := rfl
theorem b209_3 : blk 209 3 = Bk209_3 := rfl
theorem b209_4 : blk 209 4 = Bk209_4 := rfl
theorem b209_5 : blk 209 5 = Bk209_5 := rfl
theorem mx210 : mxl 210 = 4 := rfl
theorem b210_0 : blk 210 0 = Bk210_0 := rfl
theorem mx211 : mxl 211 = 4 := rfl
theorem b211_0 : blk 211 0 = Bk211_0 := rfl
theorem b211_1 : blk 211 1 = Bk211_1 := rfl
theorem b211_2 : blk 211 2 = Bk211_2 := rfl
theorem mx212 : mxl 212 = 4 := rfl
theorem b212_0 : blk 212 0 = Bk212_0 := rfl
theorem b212_1 : blk 212 1 = Bk212_1 := rfl
theorem b212_2 : blk 212 2 = Bk212_2 := rfl
theorem b212_3 : blk 212 3 = Bk212_3 := rfl
theorem b212_4 : blk 212 4 = Bk212_4 := rfl
theorem b212_5 : blk 212 5 = Bk212_5 := rfl
theorem b212_6 : blk 212 6 = Bk212_6 := rfl
theorem mx213 : mxl 213 = 2 := rfl
theorem b213_0 : blk 213 0 = Bk213_0 := rfl
theorem b213_1 : blk 213 1 = Bk213_1 := rfl
theorem b213_2 : blk 213 2 = Bk213_2 := rfl
theorem b213_3 : blk 213 3 = Bk213_3 := rfl
theorem b213_4 : blk 213 4 = Bk213_4 := rfl
theorem mx214 : mxl 214 = 5 := rfl
theorem b214_0 : blk 214 0 = Bk214_0 := rfl
theorem b214_1 : blk 214 1 = Bk214_1 := rfl
theorem b214_2 : blk 214 2 = Bk214_2 := rfl
theorem b214_3 : blk 214 3 = Bk214_3 := rfl
theorem b214_4 : blk 214 4 = Bk214_4 := rfl
theorem b214_5 : blk 214 5 = Bk214_5 := rfl
theorem b214_6 : blk 214 6 = Bk214_6 := rfl
theorem mx215 : mxl 215 = 4 := rfl
theorem b215_0 : blk 215 0 = Bk215_0 := rfl
theorem b215_1 : blk 215 1 = Bk215_1 := rfl
theorem b215_2 : blk 215 2 = Bk215_2 := rfl
theorem b215_3 : blk 215 3 = Bk215_3 := rfl
theorem b215_4 : blk 215 4 = Bk215_4 := rfl
theorem b215_5 : blk 215 5 = Bk215_5 := rfl
theorem b215_6 : blk 215 6 = Bk215_6 := rfl
theorem mx216 : mxl 216 = 3 := rfl
theorem b216_0 : blk 216 0 = Bk216_0 := rfl
theorem b216_1 : blk 216 1 = Bk216_1 := rfl
theorem b216_2 : blk 216 2 = Bk216_2 := rfl
theorem b216_3 : blk 216 3 = Bk216_3 := rfl
theorem b216_4 : blk 216 4 = Bk216_4 := rfl
theorem mx217 : mxl 217 = 2 := rfl
theorem b217_0 : blk 217 0 = Bk217_0 := rfl
theorem mx218 : mxl 218 = 3 := rfl
theorem b218_0 : blk 218 0 = Bk218_0 := rfl
theorem b218_1 : blk 218 1 = Bk218_1 := rfl
theorem b218_2 : blk 218 2 = Bk218_2 := rfl
theorem b218_3 : blk 218 3 = Bk218_3 := rfl
theorem b218_4 : blk 218 4 = Bk218_4 := rfl
theorem mx219 : mxl 219 = 5 := rfl
theorem b219_0 : blk 219 0 = Bk219_0 := rfl
theorem b219_1 : blk 219 1 = Bk219_1 := rfl
theorem b219_2 : blk 219 2 = Bk219_2 := rfl
theorem mx220 : mxl 220 = 6 := rfl
theorem b220_0 : blk 220 0 = Bk220_0 := rfl
theorem b220_1 : blk 220 1 = Bk220_1 := rfl
theorem b220_2 : blk 220 2 = Bk220_2 := rfl
theorem b220_3 : blk 220 3 = Bk220_3 := rfl
theorem b220_4 : blk 220 4 = Bk220_4 := rfl
theorem b220_5 : blk 220 5 = Bk220_5 := rfl
theorem b220_6 : blk 220 6 = Bk220_6 := rfl
theorem b220_7 : blk 220 7 = Bk220_7 := rfl
theorem b220_8 : blk 220 8 = Bk220_8 := rfl
theorem b220_9 : blk 220 9 = Bk220_9 := rfl
theorem b220_10 : blk 220 10 = Bk220_10 := rfl
theorem b220_11 : blk 220 11 = Bk220_11 := rfl
theorem b220_12 : blk 220 12 = Bk220_12 := rfl
theorem b220_13 : blk 220 13 = Bk220_13 := rfl
theorem b220_14 : blk 220 14 = Bk220_14 := rfl
theorem b220_15 : blk 220 15 = Bk220_15 := rfl
theorem b220_16 : blk 220 16 = Bk220_16 := rfl
theorem b220_17 : blk 220 17 = Bk220_17 := rfl
theorem b220_18 : blk 220 18 = Bk220_18 := rfl
theorem b220_19 : blk 220 19 = Bk220_19 := rfl
theorem b220_20 : blk 220 20 = Bk220_20 := rfl
theorem b220_21 : blk 220 21 = Bk220_21 := rfl
theorem b220_22 : blk 220 22 = Bk220_22 := rfl
theorem b220_23 : blk 220 23 = Bk220_23 := rfl
theorem b220_24 : blk 220 24 = Bk220_24 := rfl
theorem b220_25 : blk 220 25 = Bk220_25 := rfl
theorem b220_26 : blk 220 26 = Bk220_26 := rfl
theorem b220_27 : blk 220 27 = Bk220_27 := rfl
theorem mx221 : mxl 221 = 1 := rfl
theorem b221_0 : blk 221 0 = Bk221_0 := rfl
theorem mx222 : mxl 222 = 3 := rfl
theorem b222_0 : blk 222 0 = Bk222_0 := rfl
theorem b222_1 : blk 222 1 = Bk222_1 := rfl
theorem mx223 : mxl 223 = 1 := rfl
theorem b223_0 : blk 223 0 = Bk223_0 := rfl
theorem b223_1 : blk 223 1 = Bk223_1 := rfl
theorem b223_2 : blk 223 2 = Bk223_2 := rfl
theorem mx224 : mxl 224 = 2 := rfl
theorem b224_0 : blk 224 0 = Bk224_0 := rfl
theorem b224_1 : blk 224 1 = Bk224_1 := rfl
theorem b224_2 : blk 224 2 = Bk224_2 := rfl
theorem mx225 : mxl 225 = 2 := rfl
theorem b225_0 : blk 225 0 = Bk225_0 := rfl
theorem b225_1 : blk 225 1 = Bk225_1 := rfl
theorem b225_2 : blk 225 2 = Bk225_2 := rfl
theorem mx226 : mxl 226 = 1 := rfl
theorem b226_0 : blk 226 0 = Bk226_0 := rfl
theorem mx227 : mxl 227 = 2 := rfl
theorem b227_0 : blk 227 0 = Bk227_0 := rfl
theorem b227_1 : blk 227 1 = Bk227_1 := rfl
theorem mx228 : mxl 228 = 1 := rfl
theorem b228_0 : blk 228 0 = Bk228_0 := rfl
theorem b228_1 : blk 228 1 = Bk228_1 := rfl
theorem b228_2 : blk 228 2 = Bk228_2 := rfl
theorem mx229 : mxl 229 = 1 := rfl
theorem b229_0 : blk 229 0 = Bk229_0 := rfl
theorem b229_1 : blk 229 1 = Bk229_1 := rfl
theorem b229_2 : blk 229 2 = Bk229_2 := rfl
theorem mx230 : mxl 230 = 2 := rfl
theorem b230_0 : blk 230 0 = Bk230_0 := rfl
theorem mx231 : mxl 231 = 2 := rfl
theorem b231_0 : blk 231 0 = Bk231_0 := rfl
theorem mx232 : mxl 232 = 3 := rfl
theorem b232_0 : blk 232 0 = Bk232_0 := rfl
theorem b232_1 : blk 232 1 = Bk232_1 := rfl
theorem b232_2 : blk 232 2 = Bk232_2 := rfl
theorem b232_3 : blk 232 3 = Bk232_3 := rfl
theorem mx233 : mxl 233 = 4 := rfl
theorem b233_0 : blk 233 0 = Bk233_0 := rfl
theorem b233_1 : blk 233 1 = Bk233_1 := rfl
theorem b233_2 : blk 233 2 = Bk233_2 := rfl
theorem mx234 : mxl 234 = 5 := rfl
theorem b234_0 : blk 234 0 = Bk234_0 := rfl
theorem b234_1 : blk 234 1 = Bk234_1 := rfl
theorem b234_2 : blk 234 2 = Bk234_2 := rfl
theorem mx235 : mxl 235 = 3 := rfl
theorem b235_0 : blk 235 0 = Bk235_0 := rfl
theorem b235_1 : blk 235 1 = Bk235_1 := rfl
theorem b235_2 : blk 235 2 = Bk235_2 := rfl
theorem mx236 : mxl 236 = 4 := rfl
theorem b236_0 : blk 236 0 = Bk236_0 := rfl
theorem b236_1 : blk 236 1 = Bk236_1 := rfl
theorem b236_2 : blk 236 2 = Bk236_2 := rfl
theorem b236_3 : blk 236 3 = Bk236_3 := rfl
theorem b236_4 : blk 236 4 = Bk236_4 := rfl
theorem b236_5 : blk 236 5 = Bk236_5 := rfl
theorem b236_6 : blk 236 6 = Bk236_6 := rfl
theorem b236_7 : blk 236 7 = Bk236_7 := rfl
theorem b236_8 : blk 236 8 = Bk236_8 := rfl
theorem b236_9 : blk 236 9 = Bk236_9 := rfl
theorem b236_10 : blk 236 10 = Bk236_10 := rfl
theorem b236_11 : blk 236 11 = Bk236_11 := rfl
theorem b236_12 : blk 236 12 = Bk236_12 := rfl
theorem b236_13 : blk 236 13 = Bk236_13 := rfl
theorem b236_14 : blk 236 14 = Bk236_14 := rfl
theorem b236_15 : blk 236 15 = Bk236_15 := rfl
theorem b236_16 : blk 236 16 = Bk236_16 := rfl
theorem b236_17 : blk 236 17 = Bk236_17 := rfl
theorem b236_18 : blk 236 18 = Bk236_18 := rfl
theorem b236_19 : blk 236 19 = Bk236_19 := rfl
theorem b236_20 : blk 236 20 = Bk236_20 := rfl
theorem b236_21 : blk 236 21 = Bk236_21 := rfl
theorem b236_22 : blk 236 22 = Bk236_22 := rfl
theorem b236_23 : blk 236 23 = Bk236_23 := rfl
theorem b236_24 : blk 236 24 = Bk236_24 := rfl
theorem b236_25 : blk 236 25 = Bk236_25 := rfl
theorem b236_26 : blk 236 26 = Bk236_26 := rfl
theorem b236_27 : blk 236 27 = Bk236_27 := rfl
theorem b236_28 : blk 236 28 = Bk236_28 := rfl
theorem b236_29 : blk 236 29 = Bk236_29 := rfl
theorem b236_30 : blk 236 30 = Bk236_30 := rfl
theorem b236_31 : blk 236 31 = Bk236_31 := rfl
theorem b236_32 : blk 236 32 = Bk236_32 := rfl
theorem b236_33 : blk 236 33 = Bk236_33 := rfl
theorem b236_34 : blk 236 34 = Bk236_34 := rfl
theorem b236_35 : blk 236 35 = Bk236_35 := rfl
theorem b236_36 : blk 236 36 = Bk236_36 := rfl
theorem b236_37 : blk 236 37 = Bk236_37 := rfl
theorem b236_38 : blk 236 38 = Bk236_38 := rfl
theorem b236_39 : blk 236 39 = Bk236_39 := rfl
theorem b236_40 : blk 236 40 = Bk236_40 := rfl
theorem b236_41 : blk 236 41 = Bk236_41 := rfl
theorem b236_42 : blk 236 42 = Bk236_42 := rfl
theorem b236_43 : blk 236 43 = Bk236_43 := rfl
theorem b236_44 : blk 236 44 = Bk236_44 := rfl
theorem b236_45 : blk 236 45 = Bk236_45 := rfl
