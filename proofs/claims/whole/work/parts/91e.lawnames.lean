set_option maxRecDepth 20000 in
theorem ggL_law_X11_changes : GoodIn wsL_law wsX11_changes := goodIn_r _ [798, 135, 137, 127, 136, 129, 128, 121, 124, 154, 155, 5, 156, 799, 800, 801, 802, 803, 804, 805, 806, 130, 807, 808, 809, 810, 462, 463, 464, 465, 466, 467, 468, 469, 470, 471, 472, 473, 119, 378, 379, 380, 381, 319, 474, 475, 476, 477, 118, 321, 117, 320, 116, 914, 915, 916, 917, 918, 919, 920, 921, 922, 923, 924, 925, 926, 927, 928, 929, 930, 931, 932, 933, 934, 935, 936, 937, 938, 939, 940, 941, 942, 943, 944, 945, 946, 947, 948, 949, 950, 951, 952, 953, 954, 955] (by decide +kernel) (by decide +kernel)
set_option maxRecDepth 20000 in
theorem gL_law_X11_changes : GoodIn wsL_law (wsV RL 119 RX11 yX11_changes wsX11_changes) := goodIn_app (goodIn_of _ (by decide +kernel)) ggL_law_X11_changes
set_option maxRecDepth 20000 in
theorem ggL_law_X10_gossip : GoodIn wsL_law wsX10_gossip := goodIn_r _ [814, 46, 38, 815, 396, 397, 398, 45, 399, 400, 222, 223, 224, 100, 816, 817, 818, 37, 819, 87, 84, 85, 86, 902, 903, 904, 905, 906, 907, 908, 909, 910, 911, 912, 913, 971, 972, 973, 974, 978, 979, 980, 981, 982, 983, 984, 985, 986, 987] (by decide +kernel) (by decide +kernel)
set_option maxRecDepth 20000 in
theorem gL_law_X10_gossip : GoodIn wsL_law (wsV RL 120 RX10 yX10_gossip wsX10_gossip) := goodIn_app (goodIn_of _ (by decide +kernel)) ggL_law_X10_gossip
set_option maxRecDepth 20000 in
theorem ggL_law_X11_gossip : GoodIn wsL_law wsX11_gossip := goodIn_r _ [823, 824, 131, 132, 133, 366, 367, 368, 5, 369, 137, 154, 155, 156, 914, 915, 916, 917, 918, 919, 920, 921, 922, 923, 924, 925, 926, 927, 928, 929, 930, 931, 932, 933, 934, 935, 936, 937, 938, 939, 940, 941, 942, 943, 944, 945, 946, 947, 948, 949, 950, 951, 952, 953, 954, 955] (by decide +kernel) (by decide +kernel)
set_option maxRecDepth 20000 in
theorem gL_law_X11_gossip : GoodIn wsL_law (wsV RL 124 RX11 yX11_gossip wsX11_gossip) := goodIn_app (goodIn_of _ (by decide +kernel)) ggL_law_X11_gossip
set_option maxRecDepth 20000 in
theorem ggL_law_X10_hush : GoodIn wsL_law wsX10_hush := goodIn_r _ [828, 38, 815, 902, 903, 904, 905, 906, 907, 908, 909, 910, 911, 912, 913, 971, 972, 973, 974] (by decide +kernel) (by decide +kernel)
set_option maxRecDepth 20000 in
theorem gL_law_X10_hush : GoodIn wsL_law (wsV RL 125 RX10 yX10_hush wsX10_hush) := goodIn_app (goodIn_of _ (by decide +kernel)) ggL_law_X10_hush
set_option maxRecDepth 20000 in
theorem ggL_law_X11_hush : GoodIn wsL_law wsX11_hush := goodIn_r _ [832, 824, 914, 915, 916, 917, 918, 919, 920, 921, 922, 923, 924, 925, 926, 927, 928, 929, 930, 931, 932, 933, 934, 935, 936, 937, 938, 939, 940, 941, 942, 943, 944, 945, 946, 947, 948, 949, 950, 951, 952, 953, 954, 955] (by decide +kernel) (by decide +kernel)
set_option maxRecDepth 20000 in
theorem gL_law_X11_hush : GoodIn wsL_law (wsV RL 128 RX11 yX11_hush wsX11_hush) := goodIn_app (goodIn_of _ (by decide +kernel)) ggL_law_X11_hush
set_option maxRecDepth 20000 in
theorem ggL_law_X10_fits : GoodIn wsL_law wsX10_fits := goodIn_r _ [836, 24, 46, 424, 38, 425, 426, 427, 23, 428, 66, 67, 429, 65, 52, 430, 431, 310, 432, 433, 434, 435, 436, 437, 438, 439, 440, 45, 441, 105, 104, 442, 347, 348, 349, 350, 351, 352, 353, 354, 97, 100, 355, 336, 337, 356, 357, 358, 359, 195, 196, 197, 198, 443, 444, 445, 446, 447, 448, 215, 216, 449, 313, 314, 528, 509, 510, 511, 837, 838, 839, 37, 840, 87, 84, 85, 86, 841, 842, 843, 397, 398, 399, 400, 222, 223, 224, 902, 903, 904, 905, 906, 907, 908, 909, 910, 911, 912, 913, 962, 963, 964, 978, 979, 980, 981, 982, 983, 984, 985, 986, 987, 971, 972, 973, 974] (by decide +kernel) (by decide +kernel)
set_option maxRecDepth 20000 in
theorem gL_law_X10_fits : GoodIn wsL_law (wsV RL 129 RX10 yX10_fits wsX10_fits) := goodIn_app (goodIn_of _ (by decide +kernel)) ggL_law_X10_fits
set_option maxRecDepth 20000 in
theorem ggL_law_X11_fits : GoodIn wsL_law wsX11_fits := goodIn_r _ [847, 154, 155, 5, 156, 848, 849, 850, 851, 134, 124, 824, 131, 132, 133, 137, 458, 459, 460, 461, 462, 463, 464, 465, 466, 467, 468, 469, 470, 471, 472, 473, 119, 378, 379, 380, 381, 319, 474, 475, 476, 477, 118, 321, 117, 320, 116, 366, 367, 368, 369, 852, 853, 854, 855, 478, 479, 480, 481, 914, 915, 916, 917, 918, 919, 920, 921, 922, 923, 924, 925, 926, 927, 928, 929, 930, 931, 932, 933, 934, 935, 936, 937, 938, 939, 940, 941, 942, 943, 944, 945, 946, 947, 948, 949, 950, 951, 952, 953, 954, 955] (by decide +kernel) (by decide +kernel)
set_option maxRecDepth 20000 in
theorem gL_law_X11_fits : GoodIn wsL_law (wsV RL 132 RX11 yX11_fits wsX11_fits) := goodIn_app (goodIn_of _ (by decide +kernel)) ggL_law_X11_fits
set_option maxRecDepth 20000 in
theorem ggL_law_X10_sat : GoodIn wsL_law wsX10_sat := goodIn_r _ [859, 46, 24, 424, 38, 299, 331, 222, 223, 45, 224, 100, 425, 426, 427, 23, 428, 66, 67, 429, 65, 52, 430, 431, 310, 432, 433, 434, 435, 436, 437, 438, 439, 440, 441, 105, 104, 442, 347, 348, 349, 350, 351, 352, 353, 354, 97, 355, 336, 337, 356, 357, 358, 359, 195, 196, 197, 198, 443, 444, 445, 446, 447, 448, 215, 216, 449, 313, 314, 528, 509, 510, 511, 837, 838, 839, 37, 840, 87, 84, 85, 86, 841, 842, 843, 397, 398, 399, 400, 332, 333, 334, 335, 902, 903, 904, 905, 906, 907, 908, 909, 910, 911, 912, 913, 962, 963, 964, 978, 979, 980, 981, 982, 983, 984, 985, 986, 987, 971, 972, 973, 974] (by decide +kernel) (by decide +kernel)
set_option maxRecDepth 20000 in
theorem gL_law_X10_sat : GoodIn wsL_law (wsV RL 133 RX10 yX10_sat wsX10_sat) := goodIn_app (goodIn_of _ (by decide +kernel)) ggL_law_X10_sat
set_option maxRecDepth 20000 in
theorem ggL_law_X11_sat : GoodIn wsL_law wsX11_sat := goodIn_r _ [863, 134, 366, 367, 368, 5, 369, 137, 154, 155, 156, 848, 849, 850, 851, 124, 824, 131, 132, 133, 458, 459, 460, 461, 462, 463, 464, 465, 466, 467, 468, 469, 470, 471, 472, 473, 119, 378, 379, 380, 381, 319, 474, 475, 476, 477, 118, 321, 117, 320, 116, 852, 853, 854, 855, 478, 479, 480, 481, 914, 915, 916, 917, 918, 919, 920, 921, 922, 923, 924, 925, 926, 927, 928, 929, 930, 931, 932, 933, 934, 935, 936, 937, 938, 939, 940, 941, 942, 943, 944, 945, 946, 947, 948, 949, 950, 951, 952, 953, 954, 955] (by decide +kernel) (by decide +kernel)
set_option maxRecDepth 20000 in
theorem gL_law_X11_sat : GoodIn wsL_law (wsV RL 136 RX11 yX11_sat wsX11_sat) := goodIn_app (goodIn_of _ (by decide +kernel)) ggL_law_X11_sat
set_option maxRecDepth 20000 in
theorem ggL_law_X10_seed : GoodIn wsL_law wsX10_seed := goodIn_r _ [867, 48, 902, 903, 904, 905, 906, 907, 908, 909, 910, 911, 912, 913] (by decide +kernel) (by decide +kernel)
set_option maxRecDepth 20000 in
theorem gL_law_X10_seed : GoodIn wsL_law (wsV RL 137 RX10 yX10_seed wsX10_seed) := goodIn_app (goodIn_of _ (by decide +kernel)) ggL_law_X10_seed
set_option maxRecDepth 20000 in
theorem ggL_law_X11_seed : GoodIn wsL_law wsX11_seed := goodIn_r _ [871, 571, 914, 915, 916, 917, 918, 919, 920, 921, 922, 923, 924, 925, 926, 927, 928, 929, 930, 931, 932, 933, 934, 935, 936, 937, 938, 939, 940, 941, 942, 943, 944, 945, 946, 947, 948, 949, 950, 951, 952, 953, 954, 955] (by decide +kernel) (by decide +kernel)
set_option maxRecDepth 20000 in
theorem gL_law_X11_seed : GoodIn wsL_law (wsV RL 141 RX11 yX11_seed wsX11_seed) := goodIn_app (goodIn_of _ (by decide +kernel)) ggL_law_X11_seed
set_option maxRecDepth 20000 in
theorem ggL_law_X10_keep : GoodIn wsL_law wsX10_keep := goodIn_r _ [875, 28, 298, 764, 765, 2, 766, 767, 768, 769, 770, 33, 34, 876, 877, 878, 27, 879, 72, 71, 601, 602, 603, 604, 46, 327, 605, 439, 440, 45, 441, 105, 104, 442, 347, 348, 349, 350, 351, 352, 353, 354, 97, 100, 355, 336, 310, 337, 356, 357, 358, 359, 195, 196, 197, 198, 902, 903, 904, 905, 906, 907, 908, 909, 910, 911, 912, 913, 965, 966, 967, 978, 979, 980, 981, 982, 983, 984, 985, 986, 987] (by decide +kernel) (by decide +kernel)
set_option maxRecDepth 20000 in
theorem gL_law_X10_keep : GoodIn wsL_law (wsV RL 142 RX10 yX10_keep wsX10_keep) := goodIn_app (goodIn_of _ (by decide +kernel)) ggL_law_X10_keep
set_option maxRecDepth 20000 in
theorem ggL_law_X11_keep : GoodIn wsL_law wsX11_keep := goodIn_r _ [883, 135, 136, 121, 122, 154, 155, 5, 156, 462, 463, 464, 465, 466, 467, 468, 469, 137, 470, 471, 472, 473, 119, 378, 379, 380, 381, 319, 474, 475, 476, 477, 118, 321, 117, 320, 116, 914, 915, 916, 917, 918, 919, 920, 921, 922, 923, 924, 925, 926, 927, 928, 929, 930, 931, 932, 933, 934, 935, 936, 937, 938, 939, 940, 941, 942, 943, 944, 945, 946, 947, 948, 949, 950, 951, 952, 953, 954, 955] (by decide +kernel) (by decide +kernel)
set_option maxRecDepth 20000 in
theorem gL_law_X11_keep : GoodIn wsL_law (wsV RL 145 RX11 yX11_keep wsX11_keep) := goodIn_app (goodIn_of _ (by decide +kernel)) ggL_law_X11_keep
set_option maxRecDepth 20000 in
theorem ggL_law_X10_again : GoodIn wsL_law wsX10_again := goodIn_r _ [887, 298, 28, 32, 297, 764, 765, 2, 766, 767, 768, 769, 770, 33, 34, 876, 877, 878, 27, 879, 72, 71, 601, 602, 603, 604, 46, 327, 605, 439, 440, 45, 441, 105, 104, 442, 347, 348, 349, 350, 351, 352, 353, 354, 97, 100, 355, 336, 310, 337, 356, 357, 358, 359, 195, 196, 197, 198, 965, 966, 967, 902, 903, 904, 905, 906, 907, 908, 909, 910, 911, 912, 913, 968, 969, 970, 978, 979, 980, 981, 982, 983, 984, 985, 986, 987] (by decide +kernel) (by decide +kernel)
set_option maxRecDepth 20000 in
theorem gL_law_X10_again : GoodIn wsL_law (wsV RL 146 RX10 yX10_again wsX10_again) := goodIn_app (goodIn_of _ (by decide +kernel)) ggL_law_X10_again
set_option maxRecDepth 20000 in
theorem ggL_law_X11_again : GoodIn wsL_law wsX11_again := goodIn_r _ [891, 135, 121, 136, 122, 322, 154, 155, 5, 156, 462, 463, 464, 465, 466, 467, 468, 469, 137, 470, 471, 472, 473, 119, 378, 379, 380, 381, 319, 474, 475, 476, 477, 118, 321, 117, 320, 116, 914, 915, 916, 917, 918, 919, 920, 921, 922, 923, 924, 925, 926, 927, 928, 929, 930, 931, 932, 933, 934, 935, 936, 937, 938, 939, 940, 941, 942, 943, 944, 945, 946, 947, 948, 949, 950, 951, 952, 953, 954, 955] (by decide +kernel) (by decide +kernel)
set_option maxRecDepth 20000 in
theorem gL_law_X11_again : GoodIn wsL_law (wsV RL 149 RX11 yX11_again wsX11_again) := goodIn_app (goodIn_of _ (by decide +kernel)) ggL_law_X11_again
set_option maxRecDepth 20000 in
theorem ggL_law_X10_count : GoodIn wsL_law wsX10_count := goodIn_r _ [895, 16, 142, 46, 299, 423, 896, 897, 32, 297, 38, 815, 692, 619, 620, 45, 621, 100, 101, 622, 623, 624, 625, 626, 627, 628, 601, 602, 603, 2, 604, 28, 327, 605, 439, 440, 441, 105, 104, 442, 347, 348, 349, 350, 351, 352, 353, 354, 97, 355, 336, 310, 337, 356, 357, 358, 359, 195, 196, 197, 198, 902, 903, 904, 905, 906, 907, 908, 909, 910, 911, 912, 913, 956, 957, 978, 979, 980, 981, 982, 983, 984, 985, 986, 987, 968, 969, 970, 971, 972, 973, 974, 965, 966, 967] (by decide +kernel) (by decide +kernel)
set_option maxRecDepth 20000 in
theorem gL_law_X10_count : GoodIn wsL_law (wsV RL 150 RX10 yX10_count wsX10_count) := goodIn_app (goodIn_of _ (by decide +kernel)) ggL_law_X10_count
set_option maxRecDepth 20000 in
theorem ggL_law_X11_count : GoodIn wsL_law wsX11_count := goodIn_r _ [901, 152, 137, 319, 320, 321, 322, 824, 121, 697, 698, 699, 5, 700, 116, 462, 463, 464, 465, 466, 467, 468, 469, 470, 471, 472, 473, 119, 378, 379, 380, 381, 474, 475, 476, 477, 118, 117, 914, 915, 916, 917, 918, 919, 920, 921, 922, 923, 924, 925, 926, 927, 928, 929, 930, 931, 932, 933, 934, 935, 936, 937, 938, 939, 940, 941, 942, 943, 944, 945, 946, 947, 948, 949, 950, 951, 952, 953, 954, 955] (by decide +kernel) (by decide +kernel)
set_option maxRecDepth 20000 in
theorem gL_law_X11_count : GoodIn wsL_law (wsV RL 153 RX11 yX11_count wsX11_count) := goodIn_app (goodIn_of _ (by decide +kernel)) ggL_law_X11_count
