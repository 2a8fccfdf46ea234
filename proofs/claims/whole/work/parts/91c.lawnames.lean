set_option maxRecDepth 20000 in
theorem ggL_law_X11_dined : GoodIn wsL_law wsX11_dined := goodIn_r _ [418, 122, 366, 367, 368, 5, 369, 137, 154, 155, 156, 914, 915, 916, 917, 918, 919, 920, 921, 922, 923, 924, 925, 926, 927, 928, 929, 930, 931, 932, 933, 934, 935, 936, 937, 938, 939, 940, 941, 942, 943, 944, 945, 946, 947, 948, 949, 950, 951, 952, 953, 954, 955] (by decide +kernel) (by decide +kernel)
set_option maxRecDepth 20000 in
theorem gL_law_X11_dined : GoodIn wsL_law (wsV RL 50 RX11 yX11_dined wsX11_dined) := goodIn_app (goodIn_of _ (by decide +kernel)) ggL_law_X11_dined
set_option maxRecDepth 20000 in
theorem ggL_law_X10_many : GoodIn wsL_law wsX10_many := goodIn_r _ [422, 24, 46, 423, 299, 424, 425, 426, 427, 23, 428, 66, 67, 429, 65, 52, 430, 431, 310, 432, 433, 434, 435, 436, 437, 438, 439, 440, 45, 441, 105, 104, 442, 347, 348, 349, 350, 351, 352, 353, 354, 97, 100, 355, 336, 337, 356, 357, 358, 359, 195, 196, 197, 198, 443, 444, 445, 446, 447, 448, 215, 216, 449, 313, 314, 902, 903, 904, 905, 906, 907, 908, 909, 910, 911, 912, 913, 978, 979, 980, 981, 982, 983, 984, 985, 986, 987, 962, 963, 964] (by decide +kernel) (by decide +kernel)
set_option maxRecDepth 20000 in
theorem gL_law_X10_many : GoodIn wsL_law (wsV RL 51 RX10 yX10_many wsX10_many) := goodIn_app (goodIn_of _ (by decide +kernel)) ggL_law_X10_many
set_option maxRecDepth 20000 in
theorem ggL_law_X11_many : GoodIn wsL_law wsX11_many := goodIn_r _ [453, 319, 137, 454, 455, 456, 5, 457, 124, 458, 459, 460, 461, 462, 463, 464, 465, 466, 467, 468, 469, 470, 471, 472, 473, 119, 378, 379, 380, 381, 474, 475, 476, 477, 118, 321, 117, 320, 116, 478, 479, 480, 481, 914, 915, 916, 917, 918, 919, 920, 921, 922, 923, 924, 925, 926, 927, 928, 929, 930, 931, 932, 933, 934, 935, 936, 937, 938, 939, 940, 941, 942, 943, 944, 945, 946, 947, 948, 949, 950, 951, 952, 953, 954, 955] (by decide +kernel) (by decide +kernel)
set_option maxRecDepth 20000 in
theorem gL_law_X11_many : GoodIn wsL_law (wsV RL 55 RX11 yX11_many wsX11_many) := goodIn_app (goodIn_of _ (by decide +kernel)) ggL_law_X11_many
set_option maxRecDepth 20000 in
theorem ggL_law_X10_luck : GoodIn wsL_law wsX10_luck := goodIn_r _ [485, 24, 46, 299, 424, 425, 426, 427, 23, 428, 66, 67, 429, 65, 52, 430, 431, 310, 432, 433, 434, 435, 436, 437, 438, 439, 440, 45, 441, 105, 104, 442, 347, 348, 349, 350, 351, 352, 353, 354, 97, 100, 355, 336, 337, 356, 357, 358, 359, 195, 196, 197, 198, 443, 444, 445, 446, 447, 448, 215, 216, 449, 313, 314, 486, 487, 488, 2, 489, 902, 903, 904, 905, 906, 907, 908, 909, 910, 911, 912, 913, 978, 979, 980, 981, 982, 983, 984, 985, 986, 987, 962, 963, 964] (by decide +kernel) (by decide +kernel)
set_option maxRecDepth 20000 in
theorem gL_law_X10_luck : GoodIn wsL_law (wsV RL 56 RX10 yX10_luck wsX10_luck) := goodIn_app (goodIn_of _ (by decide +kernel)) ggL_law_X10_luck
set_option maxRecDepth 20000 in
theorem ggL_law_X11_luck : GoodIn wsL_law wsX11_luck := goodIn_r _ [493, 137, 454, 455, 456, 5, 457, 124, 458, 459, 460, 461, 462, 463, 464, 465, 466, 467, 468, 469, 470, 471, 472, 473, 119, 378, 379, 380, 381, 319, 474, 475, 476, 477, 118, 321, 117, 320, 116, 478, 479, 480, 481, 494, 495, 496, 497, 498, 499, 914, 915, 916, 917, 918, 919, 920, 921, 922, 923, 924, 925, 926, 927, 928, 929, 930, 931, 932, 933, 934, 935, 936, 937, 938, 939, 940, 941, 942, 943, 944, 945, 946, 947, 948, 949, 950, 951, 952, 953, 954, 955] (by decide +kernel) (by decide +kernel)
set_option maxRecDepth 20000 in
theorem gL_law_X11_luck : GoodIn wsL_law (wsV RL 59 RX11 yX11_luck wsX11_luck) := goodIn_app (goodIn_of _ (by decide +kernel)) ggL_law_X11_luck
set_option maxRecDepth 20000 in
theorem ggL_law_X10_rank : GoodIn wsL_law wsX10_rank := goodIn_r _ [503, 24, 46, 28, 327, 425, 426, 427, 23, 428, 66, 67, 429, 65, 52, 430, 431, 310, 432, 433, 434, 435, 436, 437, 438, 439, 440, 45, 441, 105, 104, 442, 347, 348, 349, 350, 351, 352, 353, 354, 97, 100, 355, 336, 337, 356, 357, 358, 359, 195, 196, 197, 198, 443, 444, 445, 446, 447, 448, 215, 216, 449, 313, 314, 504, 505, 506, 507, 508, 509, 510, 511, 902, 903, 904, 905, 906, 907, 908, 909, 910, 911, 912, 913, 965, 966, 967, 962, 963, 964, 978, 979, 980, 981, 982, 983, 984, 985, 986, 987] (by decide +kernel) (by decide +kernel)
set_option maxRecDepth 20000 in
theorem gL_law_X10_rank : GoodIn wsL_law (wsV RL 60 RX10 yX10_rank wsX10_rank) := goodIn_app (goodIn_of _ (by decide +kernel)) ggL_law_X10_rank
set_option maxRecDepth 20000 in
theorem ggL_law_X11_rank : GoodIn wsL_law wsX11_rank := goodIn_r _ [515, 121, 124, 462, 463, 464, 5, 465, 466, 467, 468, 469, 137, 470, 471, 472, 473, 119, 378, 379, 380, 381, 319, 474, 475, 476, 477, 118, 321, 117, 320, 116, 458, 459, 460, 461, 516, 517, 518, 519, 478, 479, 480, 481, 914, 915, 916, 917, 918, 919, 920, 921, 922, 923, 924, 925, 926, 927, 928, 929, 930, 931, 932, 933, 934, 935, 936, 937, 938, 939, 940, 941, 942, 943, 944, 945, 946, 947, 948, 949, 950, 951, 952, 953, 954, 955] (by decide +kernel) (by decide +kernel)
set_option maxRecDepth 20000 in
theorem gL_law_X11_rank : GoodIn wsL_law (wsV RL 63 RX11 yX11_rank wsX11_rank) := goodIn_app (goodIn_of _ (by decide +kernel)) ggL_law_X11_rank
set_option maxRecDepth 20000 in
theorem ggL_law_X10_nth : GoodIn wsL_law wsX10_nth := goodIn_r _ [523, 46, 24, 331, 222, 223, 45, 224, 100, 425, 426, 427, 23, 428, 66, 67, 429, 65, 52, 430, 431, 310, 432, 433, 434, 435, 436, 437, 438, 439, 440, 441, 105, 104, 442, 347, 348, 349, 350, 351, 352, 353, 354, 97, 355, 336, 337, 356, 357, 358, 359, 195, 196, 197, 198, 443, 444, 445, 446, 447, 448, 215, 216, 449, 313, 314, 524, 525, 526, 527, 528, 509, 510, 511, 386, 902, 903, 904, 905, 906, 907, 908, 909, 910, 911, 912, 913, 978, 979, 980, 981, 982, 983, 984, 985, 986, 987, 962, 963, 964] (by decide +kernel) (by decide +kernel)
set_option maxRecDepth 20000 in
theorem gL_law_X10_nth : GoodIn wsL_law (wsV RL 64 RX10 yX10_nth wsX10_nth) := goodIn_app (goodIn_of _ (by decide +kernel)) ggL_law_X10_nth
set_option maxRecDepth 20000 in
theorem ggL_law_X11_nth : GoodIn wsL_law wsX11_nth := goodIn_r _ [532, 124, 366, 367, 368, 5, 369, 137, 154, 155, 156, 533, 534, 535, 536, 458, 459, 460, 461, 462, 463, 464, 465, 466, 467, 468, 469, 470, 471, 472, 473, 119, 378, 379, 380, 381, 319, 474, 475, 476, 477, 118, 321, 117, 320, 116, 478, 479, 480, 481, 914, 915, 916, 917, 918, 919, 920, 921, 922, 923, 924, 925, 926, 927, 928, 929, 930, 931, 932, 933, 934, 935, 936, 937, 938, 939, 940, 941, 942, 943, 944, 945, 946, 947, 948, 949, 950, 951, 952, 953, 954, 955] (by decide +kernel) (by decide +kernel)
set_option maxRecDepth 20000 in
theorem gL_law_X11_nth : GoodIn wsL_law (wsV RL 67 RX11 yX11_nth wsX11_nth) := goodIn_app (goodIn_of _ (by decide +kernel)) ggL_law_X11_nth
set_option maxRecDepth 20000 in
theorem ggL_law_X10_wrong : GoodIn wsL_law wsX10_wrong := goodIn_r _ [540, 46, 28, 327, 541, 542, 543, 45, 544, 105, 104, 442, 100, 347, 348, 349, 350, 351, 352, 353, 354, 97, 355, 336, 310, 337, 356, 357, 358, 359, 195, 196, 197, 198, 360, 215, 216, 902, 903, 904, 905, 906, 907, 908, 909, 910, 911, 912, 913, 965, 966, 967, 978, 979, 980, 981, 982, 983, 984, 985, 986, 987] (by decide +kernel) (by decide +kernel)
set_option maxRecDepth 20000 in
theorem gL_law_X10_wrong : GoodIn wsL_law (wsV RL 68 RX10 yX10_wrong wsX10_wrong) := goodIn_app (goodIn_of _ (by decide +kernel)) ggL_law_X10_wrong
set_option maxRecDepth 20000 in
theorem ggL_law_X11_wrong : GoodIn wsL_law wsX11_wrong := goodIn_r _ [548, 121, 466, 467, 468, 5, 469, 137, 470, 471, 472, 473, 119, 378, 379, 380, 381, 319, 474, 475, 476, 477, 118, 321, 117, 320, 116, 914, 915, 916, 917, 918, 919, 920, 921, 922, 923, 924, 925, 926, 927, 928, 929, 930, 931, 932, 933, 934, 935, 936, 937, 938, 939, 940, 941, 942, 943, 944, 945, 946, 947, 948, 949, 950, 951, 952, 953, 954, 955] (by decide +kernel) (by decide +kernel)
set_option maxRecDepth 20000 in
theorem gL_law_X11_wrong : GoodIn wsL_law (wsV RL 71 RX11 yX11_wrong wsX11_wrong) := goodIn_app (goodIn_of _ (by decide +kernel)) ggL_law_X11_wrong
set_option maxRecDepth 20000 in
theorem ggL_law_X10_draw : GoodIn wsL_law wsX10_draw := goodIn_r _ [552, 24, 46, 424, 48, 553, 554, 425, 426, 427, 23, 428, 66, 67, 429, 65, 52, 430, 431, 310, 432, 433, 434, 435, 436, 437, 438, 439, 440, 45, 441, 105, 104, 442, 347, 348, 349, 350, 351, 352, 353, 354, 97, 100, 355, 336, 337, 356, 357, 358, 359, 195, 196, 197, 198, 443, 444, 445, 446, 447, 448, 215, 216, 449, 313, 314, 528, 509, 510, 511, 555, 556, 557, 2, 558, 32, 28, 327, 559, 560, 561, 31, 562, 80, 77, 79, 563, 564, 565, 566, 902, 903, 904, 905, 906, 907, 908, 909, 910, 911, 912, 913, 962, 963, 964, 978, 979, 980, 981, 982, 983, 984, 985, 986, 987, 965, 966, 967, 968, 969, 970] (by decide +kernel) (by decide +kernel)
set_option maxRecDepth 20000 in
theorem gL_law_X10_draw : GoodIn wsL_law (wsV RL 72 RX10 yX10_draw wsX10_draw) := goodIn_app (goodIn_of _ (by decide +kernel)) ggL_law_X10_draw
set_option maxRecDepth 20000 in
theorem ggL_law_X11_draw : GoodIn wsL_law wsX11_draw := goodIn_r _ [570, 571, 572, 573, 454, 455, 456, 5, 457, 124, 458, 459, 460, 461, 462, 463, 464, 465, 466, 467, 468, 469, 137, 470, 471, 472, 473, 119, 378, 379, 380, 381, 319, 474, 475, 476, 477, 118, 321, 117, 320, 116, 478, 479, 480, 481, 533, 534, 535, 536, 574, 575, 576, 577, 121, 578, 579, 580, 581, 125, 582, 122, 322, 914, 915, 916, 917, 918, 919, 920, 921, 922, 923, 924, 925, 926, 927, 928, 929, 930, 931, 932, 933, 934, 935, 936, 937, 938, 939, 940, 941, 942, 943, 944, 945, 946, 947, 948, 949, 950, 951, 952, 953, 954, 955] (by decide +kernel) (by decide +kernel)
set_option maxRecDepth 20000 in
theorem gL_law_X11_draw : GoodIn wsL_law (wsV RL 75 RX11 yX11_draw wsX11_draw) := goodIn_app (goodIn_of _ (by decide +kernel)) ggL_law_X11_draw
set_option maxRecDepth 20000 in
theorem ggL_law_X10_take : GoodIn wsL_law wsX10_take := goodIn_r _ [586, 24, 46, 28, 327, 299, 425, 426, 427, 23, 428, 66, 67, 429, 65, 52, 430, 431, 310, 432, 433, 434, 435, 436, 437, 438, 439, 440, 45, 441, 105, 104, 442, 347, 348, 349, 350, 351, 352, 353, 354, 97, 100, 355, 336, 337, 356, 357, 358, 359, 195, 196, 197, 198, 443, 444, 445, 446, 447, 448, 215, 216, 449, 313, 314, 524, 525, 526, 527, 528, 509, 510, 511, 555, 556, 557, 2, 558, 32, 559, 560, 561, 31, 562, 80, 77, 79, 563, 564, 565, 566, 587, 588, 589, 335, 902, 903, 904, 905, 906, 907, 908, 909, 910, 911, 912, 913, 965, 966, 967, 978, 979, 980, 981, 982, 983, 984, 985, 986, 987, 962, 963, 964, 968, 969, 970] (by decide +kernel) (by decide +kernel)
set_option maxRecDepth 20000 in
theorem gL_law_X10_take : GoodIn wsL_law (wsV RL 76 RX10 yX10_take wsX10_take) := goodIn_app (goodIn_of _ (by decide +kernel)) ggL_law_X10_take
set_option maxRecDepth 20000 in
theorem ggL_law_X11_take : GoodIn wsL_law wsX11_take := goodIn_r _ [593, 533, 534, 535, 5, 536, 124, 458, 459, 460, 461, 462, 463, 464, 465, 466, 467, 468, 469, 137, 470, 471, 472, 473, 119, 378, 379, 380, 381, 319, 474, 475, 476, 477, 118, 321, 117, 320, 116, 478, 479, 480, 481, 574, 575, 576, 577, 121, 578, 579, 580, 581, 125, 582, 122, 322, 914, 915, 916, 917, 918, 919, 920, 921, 922, 923, 924, 925, 926, 927, 928, 929, 930, 931, 932, 933, 934, 935, 936, 937, 938, 939, 940, 941, 942, 943, 944, 945, 946, 947, 948, 949, 950, 951, 952, 953, 954, 955] (by decide +kernel) (by decide +kernel)
set_option maxRecDepth 20000 in
theorem gL_law_X11_take : GoodIn wsL_law (wsV RL 79 RX11 yX11_take wsX11_take) := goodIn_app (goodIn_of _ (by decide +kernel)) ggL_law_X11_take
set_option maxRecDepth 20000 in
theorem ggL_law_X10_swap : GoodIn wsL_law wsX10_swap := goodIn_r _ [597, 46, 28, 327, 299, 396, 397, 398, 45, 399, 400, 222, 223, 224, 100, 332, 333, 310, 334, 335, 336, 337, 598, 599, 600, 312, 313, 314, 555, 556, 557, 2, 558, 32, 559, 560, 561, 31, 562, 80, 77, 79, 563, 564, 565, 566, 601, 602, 603, 604, 605, 439, 440, 441, 105, 104, 442, 347, 348, 349, 350, 351, 352, 353, 354, 97, 355, 356, 357, 358, 359, 195, 196, 197, 198, 902, 903, 904, 905, 906, 907, 908, 909, 910, 911, 912, 913, 965, 966, 967, 978, 979, 980, 981, 982, 983, 984, 985, 986, 987, 968, 969, 970] (by decide +kernel) (by decide +kernel)
set_option maxRecDepth 20000 in
theorem gL_law_X10_swap : GoodIn wsL_law (wsV RL 80 RX10 yX10_swap wsX10_swap) := goodIn_app (goodIn_of _ (by decide +kernel)) ggL_law_X10_swap
set_option maxRecDepth 20000 in
theorem ggL_law_X11_swap : GoodIn wsL_law wsX11_swap := goodIn_r _ [609, 121, 366, 367, 368, 5, 369, 137, 154, 155, 156, 578, 579, 580, 581, 125, 582, 122, 322, 370, 371, 372, 373, 462, 463, 464, 465, 466, 467, 468, 469, 470, 471, 472, 473, 119, 378, 379, 380, 381, 319, 474, 475, 476, 477, 118, 321, 117, 320, 116, 914, 915, 916, 917, 918, 919, 920, 921, 922, 923, 924, 925, 926, 927, 928, 929, 930, 931, 932, 933, 934, 935, 936, 937, 938, 939, 940, 941, 942, 943, 944, 945, 946, 947, 948, 949, 950, 951, 952, 953, 954, 955] (by decide +kernel) (by decide +kernel)
set_option maxRecDepth 20000 in
theorem gL_law_X11_swap : GoodIn wsL_law (wsV RL 83 RX11 yX11_swap wsX11_swap) := goodIn_app (goodIn_of _ (by decide +kernel)) ggL_law_X11_swap
