set_option maxRecDepth 20000 in
theorem ggL_law_X10_init : GoodIn wsL_law wsX10_init := goodIn_r _ [9, 10, 11, 12, 13, 14, 15, 16, 17, 18, 19, 20, 21, 22, 23, 24, 25, 26, 27, 28, 29, 30, 31, 32, 33, 34, 35, 36, 37, 38, 39, 40, 41, 42, 43, 44, 45, 46, 47, 48, 49, 50, 51, 52, 53, 54, 55, 56, 57, 58, 59, 60, 61, 62, 63, 64, 65, 66, 67, 68, 69, 70, 71, 72, 73, 74, 75, 76, 77, 78, 79, 80, 81, 82, 83, 84, 85, 86, 87, 88, 89, 90, 91, 92, 93, 94, 95, 96, 97, 98, 99, 100, 101, 102, 103, 104, 105, 106, 956, 957, 902, 903, 904, 905, 906, 907, 908, 909, 910, 911, 912, 913, 958, 959, 960, 961, 962, 963, 964, 965, 966, 967, 968, 969, 970, 971, 972, 973, 974, 975, 976, 977, 978, 979, 980, 981, 982, 983, 984, 985, 986, 987] (by decide +kernel) (by decide +kernel)
set_option maxRecDepth 20000 in
theorem gL_law_X10_init : GoodIn wsL_law (wsX10_init) := ggL_law_X10_init
set_option maxRecDepth 20000 in
theorem ggL_law_X11_init : GoodIn wsL_law wsX11_init := goodIn_r _ [109, 110, 11, 12, 78, 111, 52, 112, 113, 114, 115, 116, 117, 118, 119, 120, 121, 122, 123, 124, 125, 126, 127, 128, 129, 130, 131, 132, 133, 134, 135, 136, 137, 914, 915, 916, 917, 918, 919, 920, 921, 922, 923, 924, 925, 926, 927, 928, 929, 930, 931, 932, 933, 934, 935, 936, 937, 938, 939, 940, 941, 942, 943, 944, 945, 946, 947, 948, 949, 950, 951, 952, 953, 954, 955] (by decide +kernel) (by decide +kernel)
set_option maxRecDepth 20000 in
theorem gL_law_X11_init : GoodIn wsL_law (wsX11_init) := ggL_law_X11_init
set_option maxRecDepth 20000 in
theorem ggL_law_X10_write : GoodIn wsL_law wsX10_write := goodIn_r _ [141, 16, 142, 143, 144, 145, 15, 146, 54, 53, 902, 903, 904, 905, 906, 907, 908, 909, 910, 911, 912, 913, 956, 957] (by decide +kernel) (by decide +kernel)
set_option maxRecDepth 20000 in
theorem gL_law_X10_write : GoodIn wsL_law (wsV RL 15 RX10 yX10_write wsX10_write) := goodIn_app (goodIn_of _ (by decide +kernel)) ggL_law_X10_write
set_option maxRecDepth 20000 in
theorem ggL_law_X11_write : GoodIn wsL_law wsX11_write := goodIn_r _ [150, 151, 152, 123, 153, 154, 155, 5, 156, 914, 915, 916, 917, 918, 919, 920, 921, 922, 923, 924, 925, 926, 927, 928, 929, 930, 931, 932, 933, 934, 935, 936, 937, 938, 939, 940, 941, 942, 943, 944, 945, 946, 947, 948, 949, 950, 951, 952, 953, 954, 955] (by decide +kernel) (by decide +kernel)
set_option maxRecDepth 20000 in
theorem gL_law_X11_write : GoodIn wsL_law (wsV RL 19 RX11 yX11_write wsX11_write) := goodIn_app (goodIn_of _ (by decide +kernel)) ggL_law_X11_write
set_option maxRecDepth 20000 in
theorem ggL_law_X10_wipe : GoodIn wsL_law wsX10_wipe := goodIn_r _ [160, 16, 142, 902, 903, 904, 905, 906, 907, 908, 909, 910, 911, 912, 913, 956, 957] (by decide +kernel) (by decide +kernel)
set_option maxRecDepth 20000 in
theorem gL_law_X10_wipe : GoodIn wsL_law (wsV RL 20 RX10 yX10_wipe wsX10_wipe) := goodIn_app (goodIn_of _ (by decide +kernel)) ggL_law_X10_wipe
set_option maxRecDepth 20000 in
theorem ggL_law_X11_wipe : GoodIn wsL_law wsX11_wipe := goodIn_r _ [164, 152, 914, 915, 916, 917, 918, 919, 920, 921, 922, 923, 924, 925, 926, 927, 928, 929, 930, 931, 932, 933, 934, 935, 936, 937, 938, 939, 940, 941, 942, 943, 944, 945, 946, 947, 948, 949, 950, 951, 952, 953, 954, 955] (by decide +kernel) (by decide +kernel)
set_option maxRecDepth 20000 in
theorem gL_law_X11_wipe : GoodIn wsL_law (wsV RL 24 RX11 yX11_wipe wsX11_wipe) := goodIn_app (goodIn_of _ (by decide +kernel)) ggL_law_X11_wipe
set_option maxRecDepth 20000 in
theorem ggL_law_X10_fault : GoodIn wsL_law wsX10_fault := goodIn_r _ [168, 20, 16, 47, 169, 170, 171, 19, 172, 58, 173, 174, 175, 176, 177, 45, 178, 97, 98, 99, 100, 101, 102, 103, 104, 105, 106, 179, 180, 181, 182, 183, 184, 185, 60, 186, 187, 188, 189, 59, 190, 191, 192, 193, 194, 195, 196, 197, 198, 199, 200, 201, 202, 203, 204, 205, 206, 207, 208, 209, 210, 211, 212, 213, 214, 215, 216, 217, 218, 219, 220, 221, 222, 223, 224, 225, 226, 227, 228, 61, 229, 230, 231, 232, 233, 234, 235, 236, 237, 238, 239, 240, 241, 242, 243, 244, 245, 902, 903, 904, 905, 906, 907, 908, 909, 910, 911, 912, 913, 958, 959, 960, 961, 956, 957, 978, 979, 980, 981, 982, 983, 984, 985, 986, 987] (by decide +kernel) (by decide +kernel)
set_option maxRecDepth 20000 in
theorem gL_law_X10_fault : GoodIn wsL_law (wsV RL 25 RX10 yX10_fault wsX10_fault) := goodIn_app (goodIn_of _ (by decide +kernel)) ggL_law_X10_fault
set_option maxRecDepth 20000 in
theorem ggL_law_X11_fault : GoodIn wsL_law wsX11_fault := goodIn_r _ [249, 250, 251, 252, 5, 253, 254, 255, 256, 152, 123, 257, 258, 259, 260, 261, 262, 263, 264, 265, 266, 267, 268, 269, 270, 271, 272, 154, 155, 156, 273, 274, 275, 276, 115, 277, 278, 279, 280, 111, 112, 113, 114, 281, 282, 283, 284, 285, 286, 287, 288, 289, 290, 291, 292, 914, 915, 916, 917, 918, 919, 920, 921, 922, 923, 924, 925, 926, 927, 928, 929, 930, 931, 932, 933, 934, 935, 936, 937, 938, 939, 940, 941, 942, 943, 944, 945, 946, 947, 948, 949, 950, 951, 952, 953, 954, 955] (by decide +kernel) (by decide +kernel)
set_option maxRecDepth 20000 in
theorem gL_law_X11_fault : GoodIn wsL_law (wsV RL 28 RX11 yX11_fault wsX11_fault) := goodIn_app (goodIn_of _ (by decide +kernel)) ggL_law_X11_fault
set_option maxRecDepth 20000 in
theorem ggL_law_X10_party : GoodIn wsL_law wsX10_party := goodIn_r _ [296, 20, 16, 47, 46, 24, 32, 297, 33, 298, 34, 28, 299, 169, 170, 171, 19, 172, 58, 173, 174, 175, 176, 177, 45, 178, 97, 98, 99, 100, 101, 102, 103, 104, 105, 106, 179, 180, 181, 182, 183, 184, 185, 60, 186, 187, 188, 189, 59, 190, 191, 192, 193, 194, 195, 196, 197, 198, 199, 200, 201, 202, 203, 204, 205, 206, 207, 208, 209, 210, 211, 212, 213, 214, 215, 216, 217, 218, 219, 220, 221, 222, 223, 224, 225, 226, 227, 228, 61, 229, 230, 231, 232, 233, 234, 235, 236, 237, 238, 239, 240, 241, 242, 243, 244, 245, 300, 301, 302, 23, 303, 66, 67, 304, 305, 306, 27, 307, 72, 71, 308, 309, 310, 311, 312, 313, 314, 902, 903, 904, 905, 906, 907, 908, 909, 910, 911, 912, 913, 968, 969, 970, 965, 966, 967, 978, 979, 980, 981, 982, 983, 984, 985, 986, 987, 958, 959, 960, 961, 956, 957, 962, 963, 964] (by decide +kernel) (by decide +kernel)
set_option maxRecDepth 20000 in
theorem gL_law_X10_party : GoodIn wsL_law (wsV RL 29 RX10 yX10_party wsX10_party) := goodIn_app (goodIn_of _ (by decide +kernel)) ggL_law_X10_party
set_option maxRecDepth 20000 in
theorem ggL_law_X11_party : GoodIn wsL_law wsX11_party := goodIn_r _ [318, 256, 137, 257, 319, 258, 320, 259, 321, 116, 111, 117, 112, 118, 113, 119, 114, 121, 120, 115, 122, 322, 135, 250, 251, 252, 5, 253, 254, 255, 152, 123, 260, 261, 262, 263, 264, 265, 266, 267, 268, 269, 270, 271, 272, 154, 155, 156, 273, 274, 275, 276, 277, 278, 279, 280, 281, 282, 283, 284, 285, 286, 287, 288, 289, 290, 291, 292, 914, 915, 916, 917, 918, 919, 920, 921, 922, 923, 924, 925, 926, 927, 928, 929, 930, 931, 932, 933, 934, 935, 936, 937, 938, 939, 940, 941, 942, 943, 944, 945, 946, 947, 948, 949, 950, 951, 952, 953, 954, 955] (by decide +kernel) (by decide +kernel)
set_option maxRecDepth 20000 in
theorem gL_law_X11_party : GoodIn wsL_law (wsV RL 32 RX11 yX11_party wsX11_party) := goodIn_app (goodIn_of _ (by decide +kernel)) ggL_law_X11_party
set_option maxRecDepth 20000 in
theorem ggL_law_X10_person : GoodIn wsL_law wsX10_person := goodIn_r _ [326, 46, 28, 327, 299, 328, 329, 330, 331, 222, 223, 45, 224, 100, 332, 333, 310, 334, 335, 336, 337, 338, 243, 244, 245, 101, 339, 215, 197, 216, 340, 341, 2, 342, 343, 344, 345, 346, 106, 347, 348, 349, 350, 351, 352, 353, 354, 97, 355, 356, 357, 358, 359, 195, 196, 198, 360, 361, 218, 219, 902, 903, 904, 905, 906, 907, 908, 909, 910, 911, 912, 913, 965, 966, 967, 978, 979, 980, 981, 982, 983, 984, 985, 986, 987] (by decide +kernel) (by decide +kernel)
set_option maxRecDepth 20000 in
theorem gL_law_X10_person : GoodIn wsL_law (wsV RL 33 RX10 yX10_person wsX10_person) := goodIn_app (goodIn_of _ (by decide +kernel)) ggL_law_X10_person
set_option maxRecDepth 20000 in
theorem ggL_law_X11_person : GoodIn wsL_law wsX11_person := goodIn_r _ [365, 116, 117, 118, 119, 121, 366, 367, 368, 5, 369, 137, 154, 155, 156, 370, 371, 372, 373, 374, 375, 376, 377, 120, 378, 379, 380, 381, 319, 914, 915, 916, 917, 918, 919, 920, 921, 922, 923, 924, 925, 926, 927, 928, 929, 930, 931, 932, 933, 934, 935, 936, 937, 938, 939, 940, 941, 942, 943, 944, 945, 946, 947, 948, 949, 950, 951, 952, 953, 954, 955] (by decide +kernel) (by decide +kernel)
set_option maxRecDepth 20000 in
theorem gL_law_X11_person : GoodIn wsL_law (wsV RL 37 RX11 yX11_person wsX11_person) := goodIn_app (goodIn_of _ (by decide +kernel)) ggL_law_X11_person
set_option maxRecDepth 20000 in
theorem ggL_law_X10_chair : GoodIn wsL_law wsX10_chair := goodIn_r _ [385, 46, 28, 327, 331, 222, 223, 45, 224, 100, 386, 336, 310, 337, 902, 903, 904, 905, 906, 907, 908, 909, 910, 911, 912, 913, 965, 966, 967, 978, 979, 980, 981, 982, 983, 984, 985, 986, 987] (by decide +kernel) (by decide +kernel)
set_option maxRecDepth 20000 in
theorem gL_law_X10_chair : GoodIn wsL_law (wsV RL 38 RX10 yX10_chair wsX10_chair) := goodIn_app (goodIn_of _ (by decide +kernel)) ggL_law_X10_chair
set_option maxRecDepth 20000 in
theorem ggL_law_X11_chair : GoodIn wsL_law wsX11_chair := goodIn_r _ [390, 121, 366, 367, 368, 5, 369, 137, 154, 155, 156, 914, 915, 916, 917, 918, 919, 920, 921, 922, 923, 924, 925, 926, 927, 928, 929, 930, 931, 932, 933, 934, 935, 936, 937, 938, 939, 940, 941, 942, 943, 944, 945, 946, 947, 948, 949, 950, 951, 952, 953, 954, 955] (by decide +kernel) (by decide +kernel)
set_option maxRecDepth 20000 in
theorem gL_law_X11_chair : GoodIn wsL_law (wsV RL 42 RX11 yX11_chair wsX11_chair) := goodIn_app (goodIn_of _ (by decide +kernel)) ggL_law_X11_chair
set_option maxRecDepth 20000 in
theorem ggL_law_X10_worth : GoodIn wsL_law wsX10_worth := goodIn_r _ [394, 46, 395, 396, 397, 398, 45, 399, 400, 222, 223, 224, 100, 401, 218, 197, 219, 902, 903, 904, 905, 906, 907, 908, 909, 910, 911, 912, 913, 978, 979, 980, 981, 982, 983, 984, 985, 986, 987] (by decide +kernel) (by decide +kernel)
set_option maxRecDepth 20000 in
theorem gL_law_X10_worth : GoodIn wsL_law (wsV RL 43 RX10 yX10_worth wsX10_worth) := goodIn_app (goodIn_of _ (by decide +kernel)) ggL_law_X10_worth
set_option maxRecDepth 20000 in
theorem ggL_law_X11_worth : GoodIn wsL_law wsX11_worth := goodIn_r _ [405, 120, 366, 367, 368, 5, 369, 137, 154, 155, 156, 914, 915, 916, 917, 918, 919, 920, 921, 922, 923, 924, 925, 926, 927, 928, 929, 930, 931, 932, 933, 934, 935, 936, 937, 938, 939, 940, 941, 942, 943, 944, 945, 946, 947, 948, 949, 950, 951, 952, 953, 954, 955] (by decide +kernel) (by decide +kernel)
set_option maxRecDepth 20000 in
theorem gL_law_X11_worth : GoodIn wsL_law (wsV RL 46 RX11 yX11_worth wsX11_worth) := goodIn_app (goodIn_of _ (by decide +kernel)) ggL_law_X11_worth
set_option maxRecDepth 20000 in
theorem ggL_law_X10_dined : GoodIn wsL_law wsX10_dined := goodIn_r _ [409, 46, 28, 410, 396, 397, 398, 45, 399, 400, 222, 223, 224, 100, 411, 412, 197, 413, 414, 218, 219, 902, 903, 904, 905, 906, 907, 908, 909, 910, 911, 912, 913, 965, 966, 967, 978, 979, 980, 981, 982, 983, 984, 985, 986, 987] (by decide +kernel) (by decide +kernel)
set_option maxRecDepth 20000 in
theorem gL_law_X10_dined : GoodIn wsL_law (wsV RL 47 RX10 yX10_dined wsX10_dined) := goodIn_app (goodIn_of _ (by decide +kernel)) ggL_law_X10_dined
